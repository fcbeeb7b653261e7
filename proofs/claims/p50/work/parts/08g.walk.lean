/-! a call, and what follows it -/
theorem pz_ck_call {m len a b c e pc : Nat} {ins : Instr} (h : pz_ck1 m 4 ins len a b c e pc = true) : len = 3 ∧ ∃ (i k w : Nat), pz_cl[e]? = some ((pz_yy m).cls, i, a, k, w) ∧
    ((ins = .invokevirtual i ∧ k = 0 ∧ pz_cn c = (pz_yy a).cls ∧ c < 11) ∨ (ins = .invokestatic i ∧ (k = 1 ∨ k = 2 ∨ k = 5) ∧ c = 99) ∨ (ins = .invokespecial i ∧ (k = 3 ∨ k = 4) ∧ pz_cn c = (pz_yy a).cls ∧ c < 11)) ∧
    (pz_fr a + 1 ≤ pz_fr m ∧ 8 + (pz_ml a + 11) + pz_lo a ≤ pz_lo m) ∧ (parseMethodDescriptor (pz_yy a).desc).map (fun d => d.parameters.length) = some (b - (if c = 99 then 0 else 1)) ∧ (c = 99 ∨ 1 ≤ b) ∧ ((pz_hh a).isEmpty = !(k == 5)) := by
  simp only [pz_ck1, Bool.and_eq_true, beq_iff_eq] at h
  obtain ⟨rfl, h⟩ := h
  refine ⟨rfl, ?_⟩
  split at h
  · rename_i o i t k w he
    simp only [Bool.and_eq_true, decide_eq_true_eq, beq_iff_eq, Bool.or_eq_true] at h
    obtain ⟨rfl, rfl, hins, hR, ⟨hp, hcb⟩, hh⟩ := h
    refine ⟨i, k, w, he, ?_, hR, hp, hcb, hh⟩
    split at hins
    · rename_i i'
      simp only [Bool.and_eq_true, decide_eq_true_eq, beq_iff_eq, Bool.or_eq_true] at hins
      obtain ⟨rfl, rfl, h1, h2⟩ := hins
      exact Or.inl ⟨rfl, rfl, h1, h2⟩
    · rename_i i'
      simp only [Bool.and_eq_true, decide_eq_true_eq, beq_iff_eq, Bool.or_eq_true] at hins
      obtain ⟨rfl, h1, h2⟩ := hins
      exact Or.inr (Or.inl ⟨rfl, h1, h2⟩)
    · rename_i i'
      simp only [Bool.and_eq_true, decide_eq_true_eq, beq_iff_eq, Bool.or_eq_true] at hins
      obtain ⟨rfl, h1, h2, h3⟩ := hins
      exact Or.inr (Or.inr ⟨rfl, h1, h2, h3⟩)
    · cases hins
  · cases h
/-- what a method's walk knows from its entry on -/
def pz_Cx (p : Program) (l : Launch) (R : Room) (s : State) (mI : MethodId) (args : Array Value) (meth : Method) (c : Code) (m Z L : Nat) (xs : Nat → Int32) (D : va_G) (dA : Nat → ClassId) (sa ad0 : Nat → Nat) : Prop :=
  p.tables.exec = Jvm.exec ∧ c.code = pz_bs m ∧ c.maxLocals = pz_ml m ∧ (∀ w ∈ pz_gd, w.before args s = true) ∧ s.vm.findClass (pz_yy m).cls = some mI.cls ∧ ((pz_yy m).name = "<init>" → meth.name = "<init>") ∧ meth.sig.returnType = pz_rt m ∧ meth.locks = false ∧
  pz_fr m ≤ R.frames ∧ pz_lo m ≤ R.locals ∧ l.stackTraces = false ∧ c.exceptionTable.toList = tableOf (pz_hh m) ∧ pz_En D dA sa s ∧ pz_St Z L xs (ad0 1) s
/-- where it stands -/
def pz_Pt (s : State) (m Z L : Nat) (xs : Nat → Int32) (D : va_G) (dA : Nat → ClassId) (ad0 ad : Nat → Nat) (h0 h : pz_H) (ls : pz_L) (mls : Array Slot) (H : Heap) (locs : List Loc) (cells slots : Nat) : Prop :=
  pz_lv ad (pz_ml m) ls mls ∧ va_P D pz_cls (pz_ws ad dA h) H ∧ va_D (fun q => Z ≤ q) (pz_ws ad dA h) ∧ va_S (fun q => Z ≤ q) s.heap H locs ∧ (∀ r, r < h0.1.1 + 2 → ad r = ad0 r) ∧ h0.1.1 ≤ h.1.1 ∧ cells + h0.2.2.2.1 = h.2.2.2.1 ∧ slots + h0.2.2.2.2 = h.2.2.2.2 ∧ pz_hk L xs h ∧ ∀ u, some u ∈ ls → pz_o h.1.1 u
theorem pz_lv_same {ad ad' : Nat → Nat} {n N : Nat} {ls : pz_L} {mls : Array Slot} (h : pz_lv ad N ls mls) (ha : ∀ r, r < n + 2 → ad' r = ad r) (ho : ∀ u, some u ∈ ls → pz_o n u) : pz_lv ad' N ls mls :=
  ⟨h.1, h.2.1, h.2.2.1, fun k v hv => by rw [pz_e_same ha (ho v (List.mem_of_getElem? hv))]; exact h.2.2.2 k v hv⟩
section PZG
variable {p : Program} {l : Launch} {e : Env} {R : Room} {s : State} {mI : MethodId} {args : Array Value} {below : List Frame} {meth : Method} {c : Code} {H : Heap} {locs : List Loc} {cells slots : Nat} {Q : State → Prop}
variable {pc : Nat} {mls : Array Slot} {m Z L : Nat} {xs : Nat → Int32} {D : va_G} {dA : Nat → ClassId} {sa ad0 ad : Nat → Nat} {h0 h : pz_H} {ls : pz_L} {st : List pz_V}
theorem pz_call_run {a b ci ei len : Nat} {ins : Instr} {o1 : Option pz_V ⊕ Nat} {h1 : pz_H} (hC : pz_Cx p l R s mI args meth c m Z L xs D dA sa ad0) (hT : pz_Pt s m Z L xs D dA ad0 ad h0 h ls mls H locs cells slots)
    (hck : pz_ck1 m 4 ins len a b ci ei pc = true) (hd : decode (pz_bs m) pc = .ok (ins, len)) (hb : b ≤ st.length) (hst : (st.drop b).length ≤ 4)
    (hrc : ci = 99 ∨ (match (st.take b).reverse with | .inr (.inl r) :: _ => pz_is h.1 r ci | _ => false) = true)
    (hM : pz_Me l Z L xs D dA sa a ad (st.take b).reverse h o1 h1) (hnt : ∀ x, pz_cl[ei]? = some x → x.2.2.2.1 = 2 ∨ x.2.2.2.1 = 3 ∨ x.2.2.2.1 = 4 → ∀ E, o1 ≠ .inr E)
    (hf : cells + (h1.2.2.2.1 - h.2.2.2.1) ≤ R.cells ∧ slots + (h1.2.2.2.2 - h.2.2.2.2) ≤ R.slots) :
    ∃ av : Array Value, vx_Run p l e R s mI args below meth c H locs cells slots (h1.2.2.2.1 - h.2.2.2.1) (h1.2.2.2.2 - h.2.2.2.2) (F0 mI pc mls (st.map (pz_e ad))) ((st.drop b).map (pz_e ad)) (pz_Qc Z D dA ad h o1 h1 av) (pz_XC Z D dA ad h o1 h1) (fun q => Z ≤ q) := by
  obtain ⟨hx, hbc, hml, hts, hown, hname, hret, hlk, hRf, hRl, htr, htab, hE, hSt⟩ := hC
  obtain ⟨hlv, hP, hD, hS, had, hn0, hcs, hss, hk, hlo⟩ := hT
  obtain ⟨rfl, i, k, w, he, hins, ⟨hR1, hR2⟩, hpar, hcb, hhh⟩ := pz_ck_call hck
  have hrow := pz_cr_ok he
  have hcall := pz_cr_cb hrow
  have hG := pz_ws_good hcall
  have had1 : ad 1 = ad0 1 := had 1 (by omega)
  have hSt' : ∀ U : State, U.heap = H → s.WarmedH U.vm → pz_St Z L xs (ad 1) U := fun U hU hW => by rw [had1]; exact hSt.moved hS hU hW.alike
  have hPc : ∀ U : State, U.heap = H → s.WarmedH U.vm → pz_Pc Z L xs D dA sa ad (st.take b).reverse h (((st.take b).reverse.map (pz_e ad))).toArray U := fun U hU hW => ⟨rfl, hE.warm hW, hSt' U hU hW, by rw [hU]; exact hP, hD⟩
  have hroom : 2 * (F0 mI pc mls (st.map (pz_e ad))).monitorRoom + (((st.drop b).map (pz_e ad)).map fun v => v.category).sum ≤ 8 := lv_room (Nat.le_trans (pz_cat_sum ad _) (by omega))
  have hstk : st.map (pz_e ad) = ((st.take b).reverse.map (pz_e ad)).reverse ++ (st.drop b).map (pz_e ad) := by
    rw [← List.map_reverse, List.reverse_reverse, ← List.map_append, List.take_append_drop]
  have hRR : (pz_rm a (h1.2.2.2.1 - h.2.2.2.1) (h1.2.2.2.2 - h.2.2.2.2)).frames + 1 ≤ R.frames ∧ 8 + (pz_ml a + 11) + (pz_rm a (h1.2.2.2.1 - h.2.2.2.1) (h1.2.2.2.2 - h.2.2.2.2)).locals ≤ R.locals := ⟨Nat.le_trans hR1 hRf, Nat.le_trans hR2 hRl⟩
  have hlen : ((st.take b).reverse.map (pz_e ad)).length = b := by simp; omega
  have hfix : CallFix p mI c (pz_bs m) (pz_ml m) s args pz_gd (pz_yy m).cls := ⟨hx, hbc, hml, hown, hts⟩
  unfold pz_cr at hrow
  dsimp only at hrow
  split at hrow
  · rename_i w5 hw5
    simp only [Bool.and_eq_true, decide_eq_true_eq] at hrow
    obtain ⟨q1, q2, q3, q4, q5⟩ := hrow
    have hini := pz_gd_in q2 rfl
    rcases hins with ⟨rfl, rfl, hcn, hc12⟩ | ⟨rfl, hk3, rfl⟩ | ⟨rfl, hk2, hcn, hc12⟩
    · -- virtual
      simp at q3 q4
      have hd1 : (pz_hh a).isEmpty = true := by rw [hhh]; rfl
      have hhd : pz_hd a = Cond.code (pz_yy a) (pz_bs a) (pz_ml a) (pz_rt a) := by unfold pz_hd; rw [if_pos hd1]
      rcases hrc with rfl | hrc
      · omega
      · have hne : ci ≠ 99 := by omega
        rw [if_neg hne] at hpar
        generalize hrev : (st.take b).reverse = rv at *
        split at hrc
        · rename_i r rs
          obtain ⟨g1, g2, g3⟩ := pz_is_spec hrc
          simp only [List.map_cons, pz_e_ref g1, List.reverse_cons, List.append_assoc, List.cons_append, List.nil_append] at hstk hPc hlen
          obtain ⟨qc, hqc⟩ : ∃ qc, pz_cls[ci]? = some qc := ⟨_, List.getElem?_eq_getElem (by show ci < 11; exact hc12)⟩
          have hcn' : (pz_yy a).cls = qc.1 := by rw [← hcn]; unfold pz_cn; rw [hqc]
          have hcell := va_recv hE.1 hP hqc (by rw [pz_ws_at g1 g2, pz_ce_obj g3 hc12])
          rw [← hcn'] at hcell
          simp only [List.length_cons] at hlen
          refine ⟨_, vx_runV (C := (pz_yy a).cls) (b := ad r) (As := rs.map (pz_e ad)) (rest := (st.drop b).map (pz_e ad)) hfix hM (cwV (b - 1) hts ?_ (by rw [hhd]) rfl rfl ⟨rfl, hcall.2.2.1, hcall.2.2.2.1, hpar⟩ hRR) ⟨pz_blind, hcell, hPc⟩ rfl (by omega) hlv.2.1 hstk hroom hd hf⟩
          intro w hw
          unfold wsV at hw
          rcases List.mem_append.mp hw with hw | hw
          · simp only [List.mem_cons, List.mem_nil_iff, or_false] at hw
            rcases hw with rfl | rfl | rfl | rfl
            · exact pz_gd_good (pz_gd_in q3 rfl)
            · exact pz_gd_good (pz_gd_in q4.1 rfl)
            · exact pz_gd_good (pz_gd_in q4.2 rfl)
            · exact pz_gd_good hini
          · exact hG w hw
        · cases hrc
    · -- static
      rw [if_pos rfl] at hpar
      rcases hk3 with rfl | rfl | rfl
      · simp at q3 q4
        have hd1 : (pz_hh a).isEmpty = true := by rw [hhh]; rfl
        have hhd : pz_hd a = Cond.code (pz_yy a) (pz_bs a) (pz_ml a) (pz_rt a) := by unfold pz_hd; rw [if_pos hd1]
        refine ⟨_, vx_runS (As := (st.take b).reverse.map (pz_e ad)) (rest := (st.drop b).map (pz_e ad)) hfix hM (va_cwS b hts ?_ (by rw [hhd]) rfl rfl ⟨hcall.2.2.1, hcall.2.2.2.1, by simpa using hpar⟩ hRR) ⟨pz_blind, hPc⟩ rfl hlen hlv.2.1 hstk hroom hd hf⟩
        intro w hw
        unfold va_wsS at hw
        rcases List.mem_append.mp hw with hw | hw
        · simp only [List.mem_cons, List.mem_nil_iff, or_false] at hw
          rcases hw with rfl | rfl | rfl
          · exact pz_gd_good (pz_gd_in q3 rfl)
          · exact pz_gd_good (pz_gd_in q4 rfl)
          · exact pz_gd_good hini
        · exact hG w hw
      · simp at q3 q4
        have hd1 : (pz_hh a).isEmpty = true := by rw [hhh]; rfl
        have hhd : pz_hd a = Cond.code (pz_yy a) (pz_bs a) (pz_ml a) (pz_rt a) := by unfold pz_hd; rw [if_pos hd1]
        have hMet := pz_met hM (fun E st t hX => by obtain ⟨k, ad', hk, -⟩ := hX; exact hnt _ he (Or.inl rfl) k hk)
        exact ⟨_, pz_vx_run (va_runSN (As := (st.take b).reverse.map (pz_e ad)) (rest := (st.drop b).map (pz_e ad)) hfix hMet ⟨va_cnB b hts hG (by rw [hhd]) rfl rfl (hE.2.2.1 _ (pz_bd_in _ q3 rfl)) (hts _ hini) ⟨hcall.2.2.1, hcall.2.2.2.1, by simpa using hpar⟩ hRR, hts _ (pz_gd_in q4 rfl), trivial⟩ ⟨pz_blind, hPc⟩ rfl hlen hlv.2.1 hstk hroom hd hf)⟩
      · simp at q3 q4
        have hd1 : (pz_hh a).isEmpty = false := by rw [hhh]; rfl
        have hhd : pz_hd a = Cond.codeWith (pz_yy a) (pz_bs a) (pz_ml a) (pz_rt a) (pz_hh a) := by unfold pz_hd; rw [if_neg (by rw [hd1]; decide)]
        refine ⟨_, vx_runSX (As := (st.take b).reverse.map (pz_e ad)) (rest := (st.drop b).map (pz_e ad)) hfix hM (vx_cwSW b hts ?_ (by rw [hhd]) rfl rfl ⟨hcall.2.2.1, hcall.2.2.2.1, by simpa using hpar⟩ hRR) ⟨pz_blind, hPc⟩ rfl hlen hlv.2.1 hstk hroom hd hf⟩
        intro w hw
        unfold va_wsS at hw
        rcases List.mem_append.mp hw with hw | hw
        · simp only [List.mem_cons, List.mem_nil_iff, or_false] at hw
          rcases hw with rfl | rfl | rfl
          · exact pz_gd_good (pz_gd_in q3 rfl)
          · exact pz_gd_good (pz_gd_in q4 rfl)
          · exact pz_gd_good hini
        · exact hG w hw
    · -- special
      rcases hrc with rfl | hrc
      · omega
      · have hne : ci ≠ 99 := by omega
        rw [if_neg hne] at hpar
        have hMet := pz_met hM (fun E st t hX => by obtain ⟨k', ad', hk', -⟩ := hX; exact hnt _ he (Or.inr hk2) k' hk')
        have hd1 : (pz_hh a).isEmpty = true := by rw [hhh]; rcases hk2 with rfl | rfl <;> rfl
        have hhd : pz_hd a = Cond.code (pz_yy a) (pz_bs a) (pz_ml a) (pz_rt a) := by unfold pz_hd; rw [if_pos hd1]
        generalize hrev : (st.take b).reverse = rv at *
        split at hrc
        · rename_i r rs
          obtain ⟨g1, g2, g3⟩ := pz_is_spec hrc
          simp only [List.map_cons, pz_e_ref g1, List.reverse_cons, List.append_assoc, List.cons_append, List.nil_append] at hstk hPc hlen
          simp only [List.length_cons] at hlen
          rcases hk2 with rfl | rfl
          · simp at q3 q4
            obtain ⟨q41, q42, q43⟩ := q4
            rw [q43] at hhd
            exact ⟨_, pz_vx_run (va_runI (b := ad r) (As := rs.map (pz_e ad)) (rest := (st.drop b).map (pz_e ad)) hfix hMet (cwI (b - 1) hts hG (by rw [hhd]) rfl rfl (hts _ hini) (hts _ (pz_gd_in q3 rfl)) (hts _ (pz_gd_in q41 rfl)) q42 ⟨hcall.2.2.1, hcall.2.2.2.1, hpar⟩ hRR) ⟨pz_blind, hPc⟩ rfl (by omega) hlv.2.1 hstk hroom hd hf)⟩
          · simp at q3 q4
            obtain ⟨q41, q42, q43⟩ := q4
            rw [q43] at hhd
            exact ⟨_, pz_vx_run (va_runIN (b := ad r) (As := rs.map (pz_e ad)) (rest := (st.drop b).map (pz_e ad)) hfix hMet ⟨va_cnB (b - 1) hts hG (by rw [hhd]) rfl rfl (hE.2.2.1 _ (pz_bd_in _ q3 rfl)) (hts _ hini) ⟨hcall.2.2.1, hcall.2.2.2.1, hpar⟩ hRR, q42, hts _ (pz_gd_in q41 rfl)⟩ ⟨pz_blind, hPc⟩ rfl (by omega) hlv.2.1 hstk hroom hd hf)⟩
        · cases hrc
  · cases hrow
/-- behind a call: with its answer, or with what it threw -/
theorem pz_call_go {o1 : Option pz_V ⊕ Nat} {h1 : pz_H} {av : Array Value} {mc ms : Nat} {rest : List pz_V} {st0 : List Value} (hT : pz_Pt s m Z L xs D dA ad0 ad h0 h ls mls H locs cells slots) (hle : pz_le h h1) (hk1 : pz_hk L xs h1) (hrest : ∀ v ∈ rest, pz_o h.1.1 v) (hmc : mc = h1.2.2.2.1 - h.2.2.2.1) (hms : ms = h1.2.2.2.2 - h.2.2.2.2)
    (hr : vx_Run p l e R s mI args below meth c H locs cells slots mc ms (F0 mI pc mls st0) (rest.map (pz_e ad)) (pz_Qc Z D dA ad h o1 h1 av) (pz_XC Z D dA ad h o1 h1) (fun q => Z ≤ q))
    (k1 : ∀ (v : Option pz_V) (ad' : Nat → Nat) (H1 : Heap) (locs1 : List Loc), o1 = .inl v → pz_Pt s m Z L xs D dA ad0 ad' h0 h1 ls mls H1 locs1 (cells + mc) (slots + ms) → W p l e R s mI args below meth c H1 locs1 (cells + mc) (slots + ms) Q (F0 mI (pc + 3) mls ((v.toList ++ rest).map (pz_e ad'))))
    (k2 : ∀ (k : Nat) (E : String) (q : Addr) (ce : Cell) (ad' : Nat → Nat) (H1 : Heap) (locs1 : List Loc), o1 = .inr k → pz_xn[k]? = some E → H1[q]? = some ce → ce.vm = .none → s.vm.findClass E = some ce.cls → pz_Pt s m Z L xs D dA ad0 ad' h0 h1 ls mls H1 locs1 (cells + mc) (slots + ms) →
      vx_W p l e R s mI args below meth c H1 locs1 (cells + mc) (slots + ms) Q (F0 mI pc mls (rest.map (pz_e ad))) q) : W p l e R s mI args below meth c H locs cells slots Q (F0 mI pc mls st0) := by
  obtain ⟨hlv, hP, hD, hS, had, hn0, hcs, hss, hk, hlo⟩ := hT
  have hPt : ∀ (ad' : Nat → Nat) (H1 : Heap) (locs1 : List Loc), (∀ r, r < h.1.1 + 2 → ad' r = ad r) → va_P D pz_cls (pz_ws ad' dA h1) H1 → va_D (fun q => Z ≤ q) (pz_ws ad' dA h1) → va_S (fun q => Z ≤ q) s.heap H1 locs1 → pz_Pt s m Z L xs D dA ad0 ad' h0 h1 ls mls H1 locs1 (cells + mc) (slots + ms) := by
    intro ad' H1 locs1 ha g1 g2 g3
    obtain ⟨l1, l2, l3⟩ := hle
    exact ⟨pz_lv_same hlv ha hlo, g1, g2, g3, fun r hr9 => (ha r (by omega)).trans (had r hr9), by omega, by omega, by omega, hk1, fun u hu => (hlo u hu).mono l1⟩
  intro T hT X
  rcases hr T hT X with ⟨v, st1, t, T', Ls, e0, X', hL, e1, e2, ⟨v1, ad', r1, r2, r3, r4, r5, r6⟩, hg⟩ | ⟨q, st1, t, T', Ls, E, ce, e0, X', hL, e1, e2, ⟨k, ad', r1, r2, r3, r4, r5, r6⟩, hce, hcv, hcl, hg⟩
  · obtain ⟨-, -, hS1⟩ := vx_keep (A1 := fun q => Z ≤ q) e0 e1 hS (fun q _ h9 => h9) (fun q h9 => h9) hL r6
    have e9 : v = v1.map (pz_e ad') := by cases r3; rfl
    have w := k1 v1 ad' T'.heap (locs ++ Ls) r1 (hPt ad' _ _ r2 (by rw [e1]; exact r4) r5 hS1)
    obtain ⟨t2, a1, b1⟩ := w T' rfl X'
    refine ⟨t2, hg t2 ?_, b1⟩
    rw [e9]
    have e8 : (v1.map (pz_e ad')).toList ++ rest.map (pz_e ad) = (v1.toList ++ rest).map (pz_e ad') := by
      rw [List.map_append, ← pz_es_same r2 hrest]
      cases v1 <;> rfl
    rw [e8]
    exact a1
  · obtain ⟨-, -, hS1⟩ := vx_keep (A1 := fun q => Z ≤ q) e0 e1 hS (fun q _ h9 => h9) (fun q h9 => h9) hL r6
    have w := k2 k E q ce ad' T'.heap (locs ++ Ls) r1 r2 (by rw [e1]; exact hce) hcv hcl (hPt ad' _ _ r3 (by rw [e1]; exact r4) r5 hS1)
    obtain ⟨t2, a1, b1⟩ := w T' rfl X'
    exact ⟨t2, hg.trans a1, b1⟩
end PZG
