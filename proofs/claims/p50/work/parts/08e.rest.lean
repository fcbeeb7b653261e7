/-! the machine follows the evaluator: constants, jumps, copies, Object's constructor, answers -/
theorem pz_gd_of {w : Cond} (i : Nat) (h : decide (lw_tbl[i]? = some w) = true) (g : goodWord w = true) : w ∈ pz_gd := pz_gd_in (of_decide_eq_true h) g
theorem pz_sy : Cond.native arraycopyName ∈ pz_gd ∧ Cond.static arraycopyName ∈ pz_gd ∧ Cond.initialized "java/lang/System" ∈ pz_gd :=
  ⟨pz_gd_of 466 (by decide +kernel) rfl, pz_gd_of 465 (by decide +kernel) rfl, pz_gd_of 31 (by decide +kernel) rfl⟩
theorem pz_oi : Cond.instanceMethod Lib.objectInit ∈ pz_gd ∧ Cond.code Lib.objectInit ⟨#[0xb1]⟩ 1 none ∈ pz_gd := ⟨pz_gd_of 43 (by decide +kernel) rfl, pz_gd_of 44 (by decide +kernel) rfl⟩
theorem pz_fit_c {x : Int} (h : 0 ≤ x ∧ x ≤ 65535) : fits .char (.int (Int32.ofInt x)) = true := by
  have e0 : (0 : Int32) ≤ Int32.ofInt x := by
    rw [show (0 : Int32) = Int32.ofInt 0 from rfl]
    exact (pz_ile ⟨by omega, by omega⟩ ⟨by omega, by omega⟩).mpr h.1
  have e1 : Int32.ofInt x ≤ 65535 := by
    rw [show (65535 : Int32) = Int32.ofInt 65535 from rfl]
    exact (pz_ile ⟨by omega, by omega⟩ ⟨by omega, by omega⟩).mpr h.2
  show (decide ((0 : Int32) ≤ Int32.ofInt x) && decide (Int32.ofInt x ≤ 65535)) = true
  rw [Bool.and_eq_true]
  exact ⟨decide_eq_true e0, decide_eq_true e1⟩
section PZE
variable {p : Program} {l : Launch} {e : Env} {R : Room} {s : State} {mI : MethodId} {args : Array Value} {below : List Frame} {meth : Method} {c : Code} {H H0 : Heap} {locs : List Loc} {cells slots : Nat} {Q : State → Prop}
variable {cc : ByteArray} {pc : Nat} {mls : Array Slot} {ad : Nat → Nat} {dA : Nat → ClassId} {D : va_G} {A : Nat → Prop} {rest : List Value}
theorem pz_W3 {m a b c' e' len : Nat} {ins : Instr} (hx : p.tables.exec = Jvm.exec) (hb : c.code = cc) (hts : ∀ w ∈ pz_gd, w.before args s = true) (hown : s.vm.findClass (pz_yy m).cls = some mI.cls) (hck : pz_ck1 m 3 ins len a b c' e' pc = true) (hd : decode cc pc = .ok (ins, len))
    (k : W p l e R s mI args below meth c H locs cells slots Q (F0 mI (pc + len) mls (pz_e ad (.inl (pz_cst a b)) :: rest))) : W p l e R s mI args below meth c H locs cells slots Q (F0 mI pc mls rest) := by
  simp only [pz_ck1, Bool.and_eq_true, decide_eq_true_eq, beq_iff_eq] at hck
  obtain ⟨rfl, ha, hck⟩ := hck
  split at hck
  · exact lv_ldc hx hb hown (hts _ (pz_gd_of e' hck rfl)) hd k
  · exact lv_ldcw hx hb hown (hts _ (pz_gd_of e' hck rfl)) hd k
  · cases hck
theorem pz_W13 {m a b c' e' len : Nat} {ins : Instr} (hx : p.tables.exec = Jvm.exec) (hb : c.code = cc) (hts : ∀ w ∈ pz_gd, w.before args s = true) (hown : s.vm.findClass (pz_yy m).cls = some mI.cls) (hck : pz_ck1 m 13 ins len a b c' e' pc = true) (hd : decode cc pc = .ok (ins, len))
    (k : W p l e R s mI args below meth c H locs cells slots Q (F0 mI (pc + len) mls (pz_e ad (.inr (.inr (.inl (a : Int)))) :: rest))) : W p l e R s mI args below meth c H locs cells slots Q (F0 mI pc mls rest) := by
  simp only [pz_ck1, Bool.and_eq_true, decide_eq_true_eq, beq_iff_eq] at hck
  obtain ⟨rfl, ha, hck⟩ := hck
  split at hck
  · exact lv_ldc2 hx hb hown (hts _ (pz_gd_of e' hck rfl)) hd k
  · cases hck
theorem pz_W8 {m a b c' e' len : Nat} {ins : Instr} (hx : p.tables.exec = Jvm.exec) (hb : c.code = cc) (hck : pz_ck1 m 8 ins len a b c' e' pc = true) (hd : decode cc pc = .ok (ins, len))
    (k : W p l e R s mI args below meth c H locs cells slots Q (F0 mI a mls rest)) : W p l e R s mI args below meth c H locs cells slots Q (F0 mI pc mls rest) := by
  simp only [pz_ck1, Bool.and_eq_true, beq_iff_eq] at hck
  obtain ⟨rfl, hck⟩ := hck
  split at hck
  · exact lv_goto hx hb hd (of_decide_eq_true hck) k
  · cases hck
theorem pz_Wif {cd : ClassFile.Cond} {o : Int} {x : Int} {tgt : Nat} (hx : p.tables.exec = Jvm.exec) (hb : c.code = cc) (hi : pz_i x) (hd : decode cc pc = .ok (.ifCond cd o, 3)) (ht : (pc : Int) + o = (tgt : Int))
    (kt : pz_cond cd x 0 = true → W p l e R s mI args below meth c H locs cells slots Q (F0 mI tgt mls rest)) (kf : ¬ pz_cond cd x 0 = true → W p l e R s mI args below meth c H locs cells slots Q (F0 mI (pc + 3) mls rest)) : W p l e R s mI args below meth c H locs cells slots Q (F0 mI pc mls (.int (Int32.ofInt x) :: rest)) := by
  have h0 : pz_i 0 := ⟨by omega, by omega⟩
  cases cd <;> simp only [pz_cond, decide_eq_true_eq] at kt kf
  · exact lv_if_eq hx hb hd ht (fun h => kt ((pz_ieq hi h0).mp h)) (fun h => kf (fun q => h ((pz_ieq hi h0).mpr q)))
  · exact lv_if_ne hx hb hd ht (fun h => kt (fun q => h ((pz_ieq hi h0).mpr q))) (fun h => kf (fun q => q ((pz_ieq hi h0).mp h)))
  · exact lv_if_lt hx hb hd ht (fun h => kt ((pz_ilt hi h0).mp h)) (fun h => kf (fun q => h ((pz_ilt hi h0).mpr q)))
  · exact lv_if_ge hx hb hd ht (fun h => kt ((pz_ile h0 hi).mp h)) (fun h => kf (fun q => h ((pz_ile h0 hi).mpr q)))
  · exact lv_if_gt hx hb hd ht (fun h => kt ((pz_ilt h0 hi).mp h)) (fun h => kf (fun q => h ((pz_ilt h0 hi).mpr q)))
  · exact lv_if_le hx hb hd ht (fun h => kt ((pz_ile hi h0).mp h)) (fun h => kf (fun q => h ((pz_ile hi h0).mpr q)))
theorem pz_Wicmp {cd : ClassFile.Cond} {o : Int} {x y : Int} {tgt : Nat} (hx : p.tables.exec = Jvm.exec) (hb : c.code = cc) (hi : pz_i x) (h0 : pz_i y) (hd : decode cc pc = .ok (.if_icmp cd o, 3)) (ht : (pc : Int) + o = (tgt : Int))
    (kt : pz_cond cd x y = true → W p l e R s mI args below meth c H locs cells slots Q (F0 mI tgt mls rest)) (kf : ¬ pz_cond cd x y = true → W p l e R s mI args below meth c H locs cells slots Q (F0 mI (pc + 3) mls rest)) : W p l e R s mI args below meth c H locs cells slots Q (F0 mI pc mls (.int (Int32.ofInt y) :: .int (Int32.ofInt x) :: rest)) := by
  cases cd <;> simp only [pz_cond, decide_eq_true_eq] at kt kf
  · exact lv_icmp_eq hx hb hd ht (fun h => kt ((pz_ieq hi h0).mp h)) (fun h => kf (fun q => h ((pz_ieq hi h0).mpr q)))
  · exact lv_icmp_ne hx hb hd ht (fun h => kt (fun q => h ((pz_ieq hi h0).mpr q))) (fun h => kf (fun q => q ((pz_ieq hi h0).mp h)))
  · exact lv_icmp_lt hx hb hd ht (fun h => kt ((pz_ilt hi h0).mp h)) (fun h => kf (fun q => h ((pz_ilt hi h0).mpr q)))
  · exact lv_icmp_ge hx hb hd ht (fun h => kt ((pz_ile h0 hi).mp h)) (fun h => kf (fun q => h ((pz_ile h0 hi).mpr q)))
  · exact lv_icmp_gt hx hb hd ht (fun h => kt ((pz_ilt h0 hi).mp h)) (fun h => kf (fun q => h ((pz_ilt h0 hi).mpr q)))
  · exact lv_icmp_le hx hb hd ht (fun h => kt ((pz_ile hi h0).mp h)) (fun h => kf (fun q => h ((pz_ile hi h0).mpr q)))
theorem pz_Wnull {o : Int} {r tgt : Nat} (hx : p.tables.exec = Jvm.exec) (hb : c.code = cc) (hd : decode cc pc = .ok (.ifnull o, 3)) (ht : (pc : Int) + o = (tgt : Int))
    (kt : r = 0 → W p l e R s mI args below meth c H locs cells slots Q (F0 mI tgt mls rest)) (kf : ¬ r = 0 → W p l e R s mI args below meth c H locs cells slots Q (F0 mI (pc + 3) mls rest)) : W p l e R s mI args below meth c H locs cells slots Q (F0 mI pc mls (pz_e ad (.inr (.inl r)) :: rest)) := by
  by_cases hr : r = 0
  · have e1 : pz_e ad (.inr (.inl r)) = .null := by show (if r = 0 then Value.null else .ref (ad r)) = _; rw [if_pos hr]
    rw [e1]
    exact lv_ifnullN hx hb hd ht (kt hr)
  · have e1 : pz_e ad (.inr (.inl r)) = .ref (ad r) := by show (if r = 0 then Value.null else .ref (ad r)) = _; rw [if_neg hr]
    rw [e1]
    exact lv_ifnull hx hb hd (kf hr)
theorem pz_W12 {m a b c' e' len : Nat} {d lo hi : Int} {offs : Array Int} {x : Int} (hx : p.tables.exec = Jvm.exec) (hb : c.code = cc) (hxi : pz_i x) (hck : pz_ck1 m 12 (.tableswitch d lo hi offs) len a b c' e' pc = true) (hd : decode cc pc = .ok (.tableswitch d lo hi offs, len))
    (kt : x < lo ∨ hi < x → W p l e R s mI args below meth c H locs cells slots Q (F0 mI ((a : Int) + d).toNat mls rest)) (kf : ∀ o, ¬ (x < lo ∨ hi < x) → offs[(x - lo).toNat]? = some o → W p l e R s mI args below meth c H locs cells slots Q (F0 mI ((a : Int) + o).toNat mls rest))
    (hin : ¬ (x < lo ∨ hi < x) → ∃ o, offs[(x - lo).toNat]? = some o) : W p l e R s mI args below meth c H locs cells slots Q (F0 mI pc mls (.int (Int32.ofInt x) :: rest)) := by
  simp only [pz_ck1, Bool.and_eq_true, beq_iff_eq, decide_eq_true_eq] at hck
  obtain ⟨rfl, hd0, hall⟩ := hck
  have e1 := pz_of hxi
  by_cases h : x < lo ∨ hi < x
  · exact lv_tableOut hx hb hd (by rw [e1]; exact h) (by omega) (kt h)
  · obtain ⟨o, ho⟩ := hin h
    have h2 := List.all_eq_true.mp hall o (Array.mem_toList_iff.mpr (Array.mem_of_getElem? ho))
    have h3 := of_decide_eq_true h2
    exact lv_tableIn hx hb hd (by rw [e1]; exact fun q => h (Or.inl q)) (by rw [e1]; exact fun q => h (Or.inr q)) (by rw [e1]; exact ho) (by omega) (kf o h ho)
theorem pz_cat_sum (ad : Nat → Nat) : ∀ (st : List pz_V), ((st.map (pz_e ad)).map fun v => v.category).sum ≤ 2 * st.length
  | [] => Nat.le_refl _
  | v :: st => by
    have h1 := pz_cat_sum ad st
    have h2 : pz_cat v ≤ 2 := by rcases v with x | x | x | x | x <;> simp [pz_cat]
    simp only [List.map_cons, List.sum_cons, List.length_cons, pz_e_cat]
    omega
theorem pz_W6 {m a b c' e' len r : Nat} {ins : Instr} {st : List pz_V} (hx : p.tables.exec = Jvm.exec) (hb : c.code = cc) (hts : ∀ w ∈ pz_gd, w.before args s = true) (hown : s.vm.findClass (pz_yy m).cls = some mI.cls) (hsz : mls.size = c.maxLocals)
    (hRf : pz_fr m ≤ R.frames) (hRl : pz_lo m ≤ R.locals) (hr : 2 ≤ r) (hst : st.length ≤ 4) (hck : pz_ck1 m 6 ins len a b c' e' pc = true) (hd : decode cc pc = .ok (ins, len))
    (k : W p l e R s mI args below meth c H locs cells slots Q (F0 mI (pc + len) mls (st.map (pz_e ad)))) : W p l e R s mI args below meth c H locs cells slots Q (F0 mI pc mls (pz_e ad (.inr (.inl r)) :: st.map (pz_e ad))) := by
  simp only [pz_ck1, Bool.and_eq_true, beq_iff_eq] at hck
  obtain ⟨rfl, hck⟩ := hck
  split at hck
  · simp only [Bool.and_eq_true, decide_eq_true_eq] at hck
    obtain ⟨hw, hf1, hf2⟩ := hck
    rw [pz_e_ref hr]
    refine W.objInit hx hb hown (hts _ (pz_gd_in hw rfl)) (hts _ pz_oi.1) (hts _ pz_oi.2) rfl hsz rfl hd (by omega) ?_ k
    have h1 := pz_cat_sum ad st
    show 2 * 0 + _ + 12 ≤ _
    omega
  · cases hck
set_option maxHeartbeats 4000000 in
theorem pz_W5 {L : Nat} {xs : Nat → Int32} {m a b c' e' len : Nat} {ins : Instr} {st st' : List pz_V} {h h' : pz_H} (hx : p.tables.exec = Jvm.exec) (hb : c.code = cc) (hts : ∀ w ∈ pz_gd, w.before args s = true) (hown : s.vm.findClass (pz_yy m).cls = some mI.cls) (hK : va_K D pz_cls (pz_tys dA) s)
    (hP : va_P D pz_cls (pz_ws ad dA h) H) (hD : va_D A (pz_ws ad dA h)) (hS : va_S A H0 H locs) (hsz : c.maxLocals = mls.size) (hRf : pz_fr m ≤ R.frames) (hRl : pz_lo m ≤ R.locals)
    (q : pz_hk L xs h) (ho : ∀ v ∈ st, pz_o h.1.1 v) (hm : pz_cpy st h = some (st', h')) (hck : pz_ck1 m 5 ins len a b c' e' pc = true) (hd : decode cc pc = .ok (ins, len))
    (k : ∀ (H1 : Heap) (locs1 : List Loc), va_P D pz_cls (pz_ws ad dA h') H1 → va_D A (pz_ws ad dA h') → va_S A H0 H1 locs1 → W p l e R s mI args below meth c H1 locs1 cells slots Q (F0 mI (pc + len) mls (st'.map (pz_e ad)))) : W p l e R s mI args below meth c H locs cells slots Q (F0 mI pc mls (st.map (pz_e ad))) := by
  simp only [pz_ck1, Bool.and_eq_true, beq_iff_eq] at hck
  obtain ⟨rfl, hck⟩ := hck
  obtain ⟨t0, t1, t2, -⟩ := pz_tys_at dA
  split at hck
  · simp only [Bool.and_eq_true, decide_eq_true_eq] at hck
    obtain ⟨hw, hf1, hf2⟩ := hck
    unfold pz_cpy at hm
    split at hm
    · rename_i n dp d sp sx st1
      obtain ⟨hi, hm⟩ := pz_ite hm
      · cases hm
        obtain ⟨h0, h1, h2, h3, h4, h5, h6, h7, h8, h9, h10⟩ := hi
        obtain ⟨g1, g2, g3⟩ := pz_is_spec h1
        obtain ⟨f1, f2, -⟩ := pz_is_spec h2
        have n1 : pz_i n := ho (.inl n) List.mem_cons_self
        have n2 : pz_i dp := ho (.inl dp) (List.mem_cons_of_mem _ List.mem_cons_self)
        have n3 : pz_i sp := ho (.inl sp) (List.mem_cons_of_mem _ (List.mem_cons_of_mem _ (List.mem_cons_of_mem _ List.mem_cons_self)))
        have pos : ∀ {z : Int}, pz_i z → 0 ≤ z → ¬ Int32.ofInt z < 0 := by
          intro z hz hz0 q9
          rw [show (0 : Int32) = Int32.ofInt 0 from rfl, pz_ilt hz ⟨by omega, by omega⟩] at q9
          omega
        have hws : pz_ws ad dA (h.1, pz_u1 h.2.1 d (fun k => if dp.toNat ≤ k ∧ k < dp.toNat + n.toNat then h.2.1 sx (sp.toNat + (k - dp.toNat)) else h.2.1 d k), h.2.2) = (pz_ws ad dA h).set (d - 2) (ad d, .inl (dA (h.1.2.1 d), h.1.2.2.1 d, .inl (va_cpy (fun j => Int32.ofInt (h.2.1 sx j)) (fun j => Int32.ofInt (h.2.1 d j)) (Int32.ofInt sp).toNatClampNeg (Int32.ofInt dp).toNatClampNeg (Int32.ofInt n).toNatClampNeg))) := by
          refine pz_ws_set f1 rfl ?_ (fun r' hne => ?_)
          · rw [pz_ce_int (h := (h.1, pz_u1 h.2.1 d (fun k => if dp.toNat ≤ k ∧ k < dp.toNat + n.toNat then h.2.1 sx (sp.toNat + (k - dp.toNat)) else h.2.1 d k), h.2.2)) (a := h.1.2.1 d) rfl ⟨h3, h4⟩, pz_tnc n1, pz_tnc n2, pz_tnc n3]
            congr 4
            funext j
            show Int32.ofInt (pz_u1 h.2.1 d _ d j) = _
            rw [pz_u1_at, if_pos rfl]
            unfold va_cpy
            dsimp only
            split <;> rfl
          · have e1 : pz_u1 h.2.1 d (fun k => if dp.toNat ≤ k ∧ k < dp.toNat + n.toNat then h.2.1 sx (sp.toNat + (k - dp.toNat)) else h.2.1 d k) r' = h.2.1 r' := by rw [pz_u1_at, if_neg hne]
            unfold pz_ce pz_fv
            simp only [e1]
        rw [hws] at k
        simp only [List.map_cons]
        rw [pz_e_ref g1, pz_e_ref f1]
        have hroom : ((st'.map (pz_e ad)).map fun v => v.category).sum + (nativeFrameWords "java/lang/System" "arraycopy" 5 + 11) ≤ R.locals := by
          have z1 := pz_cat_sum ad st'
          have z2 : nativeFrameWords "java/lang/System" "arraycopy" 5 = 7 := by decide
          rw [z2]
          omega
        have hk3 : h.1.2.1 d = 20 ∨ h.1.2.1 d = 21 ∨ h.1.2.1 d = 22 := by omega
        have fitI : ∀ i, fits .int (.int (Int32.ofInt (h.2.1 sx i))) = true := fun _ => rfl
        rcases hk3 with hk | hk | hk
        · rw [hk] at k g3
          refine va_copyi (ty := .int) hx hb hsz hown (hts _ (pz_gd_in hw rfl)) (hts _ pz_sy.1) (hts _ pz_sy.2.1) (hts _ pz_sy.2.2) hK hP hD hS (sx - 2) (d - 2) 0 0 (by rw [pz_ws_at g1 g2, pz_ce_int g3 ⟨by omega, by omega⟩]) (by rw [pz_ws_at f1 f2, pz_ce_int hk ⟨by omega, by omega⟩]) t0 t0 rfl (pos n3 h6) (pos n2 h7) (pos n1 h8) (by rw [pz_tnc n3, pz_tnc n1]; omega) (by rw [pz_tnc n2, pz_tnc n1]; omega) ?_ (by omega) hroom hd k
          exact fun i _ => rfl
        · rw [hk] at k g3
          refine va_copyi (ty := .boolean) hx hb hsz hown (hts _ (pz_gd_in hw rfl)) (hts _ pz_sy.1) (hts _ pz_sy.2.1) (hts _ pz_sy.2.2) hK hP hD hS (sx - 2) (d - 2) 1 1 (by rw [pz_ws_at g1 g2, pz_ce_int g3 ⟨by omega, by omega⟩]) (by rw [pz_ws_at f1 f2, pz_ce_int hk ⟨by omega, by omega⟩]) t1 t1 rfl (pos n3 h6) (pos n2 h7) (pos n1 h8) (by rw [pz_tnc n3, pz_tnc n1]; omega) (by rw [pz_tnc n2, pz_tnc n1]; omega) ?_ (by omega) hroom hd k
          intro i _
          have h11 := q.1 sx ((Int32.ofInt sp).toNatClampNeg + i)
          rw [g3] at h11
          have h12 : h.2.1 sx ((Int32.ofInt sp).toNatClampNeg + i) = 0 ∨ h.2.1 sx ((Int32.ofInt sp).toNatClampNeg + i) = 1 := h11
          show fits .boolean (.int (Int32.ofInt (h.2.1 sx ((Int32.ofInt sp).toNatClampNeg + i)))) = true
          rcases h12 with h12 | h12 <;> rw [h12] <;> rfl
        · rw [hk] at k g3
          refine va_copyi (ty := .char) hx hb hsz hown (hts _ (pz_gd_in hw rfl)) (hts _ pz_sy.1) (hts _ pz_sy.2.1) (hts _ pz_sy.2.2) hK hP hD hS (sx - 2) (d - 2) 2 2 (by rw [pz_ws_at g1 g2, pz_ce_int g3 ⟨by omega, by omega⟩]) (by rw [pz_ws_at f1 f2, pz_ce_int hk ⟨by omega, by omega⟩]) t2 t2 rfl (pos n3 h6) (pos n2 h7) (pos n1 h8) (by rw [pz_tnc n3, pz_tnc n1]; omega) (by rw [pz_tnc n2, pz_tnc n1]; omega) ?_ (by omega) hroom hd k
          intro i _
          have h11 := q.1 sx ((Int32.ofInt sp).toNatClampNeg + i)
          rw [g3] at h11
          have h12 : 0 ≤ h.2.1 sx ((Int32.ofInt sp).toNatClampNeg + i) ∧ h.2.1 sx ((Int32.ofInt sp).toNatClampNeg + i) ≤ 65535 := h11
          exact pz_fit_c h12
    · cases hm
  · cases hck
end PZE
