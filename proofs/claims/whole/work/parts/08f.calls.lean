/-! contracts of the evaluator's runs -/
def pz_wn : Cond → Bool
  | .declares _ => true
  | .castable _ _ => true
  | .methodLinkNest _ _ _ _ => true
  | _ => false
def pz_bd : List Cond := lw_tbl.filter pz_wn
theorem pz_bd_in {w : Cond} (i : Nat) (h : lw_tbl[i]? = some w) (g : pz_wn w = true) : w ∈ pz_bd := List.mem_filter.mpr ⟨List.mem_of_getElem? h, g⟩
theorem pz_wn_warm {w : Cond} (g : pz_wn w = true) {s U : State} (hW : s.WarmedH U.vm) (h : va_Nw w s) : va_Nw w U := by
  unfold pz_wn at g
  split at g
  · exact va_Nw.warmD hW h
  · exact va_Nw.warmC hW h
  · exact va_Nw.warmM hW h
  · cases g
/-- what the tables say, kept by every run -/
def pz_En (D : va_G) (dA : Nat → ClassId) (sa : Nat → Nat) (U : State) : Prop :=
  va_K D pz_cls (pz_tys dA) U ∧ va_AO "Simplespan$Plan" U ∧ (∀ w ∈ pz_bd, va_Nw w U) ∧
  (∀ (k : Nat) (o : String) (ik is ic E wd : Nat) (tx : String), pz_tl[k]? = some (o, ik, is, ic, E, wd, tx) → vk_R o is tx (sa k) U) ∧
  (∀ (a b : Nat) (x y : String), pz_xn[a]? = some x → pz_xn[b]? = some y → a ≠ b → va_Nc x y U)
theorem pz_En.warm {D : va_G} {dA : Nat → ClassId} {sa : Nat → Nat} {s U : State} (hW : s.WarmedH U.vm) (h : pz_En D dA sa s) : pz_En D dA sa U := by
  obtain ⟨h1, h2, h3, h4, h5⟩ := h
  exact ⟨va_K.moved hW.alike h1, va_AO.moved hW.alike h2, fun w hw => pz_wn_warm (List.mem_filter.mp hw).2 hW (h3 w hw), fun k o ik is ic E wd tx hk => vk_R.warm hW (h4 k o ik is ic E wd tx hk), fun a b x y ha hb hn => va_Nc.moved hW.alike (h5 a b x y ha hb hn)⟩
/-- statics and the script, below Z -/
def pz_St (Z L : Nat) (xs : Nat → Int32) (b : Nat) (U : State) : Prop :=
  Z ≤ U.heap.size ∧ va_X b L xs U U.heap ∧ b < Z ∧ vx_Zq Bundle.tN "UNASSIGNED_STACK" Bundle.steD (fun q => Z ≤ q) U U.heap ∧ vx_Zq Bundle.tN "SUPPRESSED_SENTINEL" Bundle.listD (fun q => Z ≤ q) U U.heap
theorem pz_St.moved {Z L : Nat} {xs : Nat → Int32} {b : Nat} {s U : State} {H : Heap} {locs : List Loc} (h : pz_St Z L xs b s) (hS : va_S (fun q => Z ≤ q) s.heap H locs) (hU : U.heap = H) (hvm : s.vm.Alike U.vm) : pz_St Z L xs b U := by
  obtain ⟨h1, h2, h3, h4, h5⟩ := h
  subst hU
  exact ⟨Nat.le_trans h1 hS.1, va_X.moved hvm (h2.kept (hS.2.1 b (Nat.lt_of_lt_of_le h3 h1) (by omega))), h3, vx_Zq.moved hvm (h4.kept hS.2.1), vx_Zq.moved hvm (h5.kept hS.2.1)⟩
def pz_Pc (Z L : Nat) (xs : Nat → Int32) (D : va_G) (dA : Nat → ClassId) (sa : Nat → Nat) (ad : Nat → Nat) (as : List pz_V) (h : pz_H) : Array Value → State → Prop := fun v U =>
  v = (as.map (pz_e ad)).toArray ∧ pz_En D dA sa U ∧ pz_St Z L xs (ad 1) U ∧ va_P D pz_cls (pz_ws ad dA h) U.heap ∧ va_D (fun q => Z ≤ q) (pz_ws ad dA h)
def pz_Qc (Z : Nat) (D : va_G) (dA : Nat → ClassId) (ad : Nat → Nat) (h : pz_H) (o : Option pz_V ⊕ Nat) (h' : pz_H) : Array Value → State → Outcome → State → Prop := fun _ st oc t =>
  ∃ (v : Option pz_V) (ad' : Nat → Nat), o = .inl v ∧ (∀ r, r < h.1.1 + 2 → ad' r = ad r) ∧ oc = .returned (v.map (pz_e ad')) ∧ va_P D pz_cls (pz_ws ad' dA h') t.heap ∧ va_D (fun q => Z ≤ q) (pz_ws ad' dA h') ∧ va_F (fun q => Z ≤ q) st t
def pz_XC (Z : Nat) (D : va_G) (dA : Nat → ClassId) (ad : Nat → Nat) (h : pz_H) (o : Option pz_V ⊕ Nat) (h' : pz_H) : String → State → State → Prop := fun E st t =>
  ∃ (k : Nat) (ad' : Nat → Nat), o = .inr k ∧ pz_xn[k]? = some E ∧ (∀ r, r < h.1.1 + 2 → ad' r = ad r) ∧ va_P D pz_cls (pz_ws ad' dA h') t.heap ∧ va_D (fun q => Z ≤ q) (pz_ws ad' dA h') ∧ va_F (fun q => Z ≤ q) st t
def pz_hd (m : Nat) : Cond := if (pz_hh m).isEmpty then Cond.code (pz_yy m) (pz_bs m) (pz_ml m) (pz_rt m) else Cond.codeWith (pz_yy m) (pz_bs m) (pz_ml m) (pz_rt m) (pz_hh m)
def pz_rm (m mc ms : Nat) : Room := { frames := pz_fr m, cells := mc, slots := ms, locals := pz_lo m }
def pz_Me (l : Launch) (Z L : Nat) (xs : Nat → Int32) (D : va_G) (dA : Nat → ClassId) (sa : Nat → Nat) (m : Nat) (ad : Nat → Nat) (as : List pz_V) (h : pz_H) (o : Option pz_V ⊕ Nat) (h' : pz_H) : Prop :=
  vx_Met l (pz_yy m) (pz_hd m :: pz_gd) (pz_rm m (h'.2.2.2.1 - h.2.2.2.1) (h'.2.2.2.2 - h.2.2.2.2)) (pz_Pc Z L xs D dA sa ad as h) (pz_Qc Z D dA ad h o h') (pz_XC Z D dA ad h o h') (h'.2.2.2.1 - h.2.2.2.1) (h'.2.2.2.2 - h.2.2.2.2) (fun q => Z ≤ q)
theorem pz_blind {Z L : Nat} {xs : Nat → Int32} {D : va_G} {dA : Nat → ClassId} {sa ad : Nat → Nat} {as : List pz_V} {h : pz_H} : FrameBlind (pz_Pc Z L xs D dA sa ad as h) := by
  intro a U g mk q
  obtain ⟨q1, q2, ⟨q3, q4, q5, q6, q7⟩, q8, q9⟩ := q
  exact ⟨q1, pz_En.warm (s := U) (U := U.calling g mk a) (State.WarmedH.refl U) q2, ⟨q3, va_X.moved (u := U) (U := U.calling g mk a) (Vm.Alike.refl U.vm) q4, q5, vx_Zq.moved (u := U) (U := U.calling g mk a) (Vm.Alike.refl U.vm) q6, vx_Zq.moved (u := U) (U := U.calling g mk a) (Vm.Alike.refl U.vm) q7⟩, q8, q9⟩
theorem pz_met {l : Launch} {y : MethodName} {ws : List Cond} {rm : Room} {Pc : Array Value → State → Prop} {Qc : Array Value → State → Outcome → State → Prop} {XC : String → State → State → Prop} {mc ms : Nat} {free : Addr → Prop} (h : vx_Met l y ws rm Pc Qc XC mc ms free) (hX : ∀ E st t, ¬ XC E st t) : Met l y ws rm Pc Qc mc ms free := by
  intro p e ha hc hk s m args below hf hap hp hK
  obtain ⟨n, o, h1, h2, h3, h4⟩ := h p e ha hc hk s m args below hf hap hp hK
  refine ⟨n, o, h1, h2, h3, ?_⟩
  rcases h4 with h4 | ⟨q, -, E, ce, L, hx, -⟩
  · exact h4
  · exact absurd hx (hX _ _ _)
section PZR
variable {p : Program} {l : Launch} {e : Env} {R : Room} {s : State} {m : MethodId} {args : Array Value} {below : List Frame} {meth : Method} {c : Code} {H : Heap} {locs : List Loc} {cells slots mc ms : Nat} {g : JFrame} {rest : List Value} {Qa : State → Outcome → State → Prop} {XC : String → State → State → Prop} {free : Addr → Prop}
theorem pz_vx_run (h : va_Run p l e R s m args below meth c H locs cells slots mc ms g rest Qa free) : vx_Run p l e R s m args below meth c H locs cells slots mc ms g rest Qa XC free := by
  intro T hT X
  obtain ⟨v, st0, t, T', L, h1, h2, h3, h4, h5, h6, h7⟩ := h T hT X
  exact Or.inl ⟨v, st0, t, T', L, h1, h2, h3, h4, h5, h6, h7⟩
end PZR
/-- what the tables say of a call -/
def pz_cr (x : String × Nat × Nat × Nat × Nat) : Bool := match pz_mw[x.2.2.1]? with
  | some w => decide (lw_tbl[w.1]? = some (pz_hd x.2.2.1)) && (decide (lw_tbl[w.2.2.2.2]? = some (.initialized (pz_yy x.2.2.1).cls)) &&
    ((if x.2.2.2.1 = 2 ∨ x.2.2.2.1 = 4 then decide (lw_tbl[x.2.2.2.2]? = some (.methodLinkNest x.1 x.2.1 (pz_yy x.2.2.1) "Simplespan")) else decide (lw_tbl[x.2.2.2.2]? = some (.methodLink x.1 x.2.1 (pz_yy x.2.2.1)))) &&
    ((if x.2.2.2.1 = 0 then decide (lw_tbl[w.2.1]? = some (.instanceMethod (pz_yy x.2.2.1))) && decide (lw_tbl[w.2.2.2.1]? = some (.selects (pz_yy x.2.2.1).cls (pz_yy x.2.2.1) (pz_yy x.2.2.1)))
      else if x.2.2.2.1 = 3 ∨ x.2.2.2.1 = 4 then decide (lw_tbl[w.2.1]? = some (.instanceMethod (pz_yy x.2.2.1))) && (decide ((pz_yy x.2.2.1).name = "<init>") && decide (pz_rt x.2.2.1 = none))
      else decide (lw_tbl[w.2.1]? = some (.static (pz_yy x.2.2.1)))) &&
    (decide ((pz_yy x.2.2.1).cls ≠ "java/lang/invoke/MethodHandle" ∧ (pz_yy x.2.2.1).cls ≠ "java/lang/invoke/VarHandle" ∧ plainName (pz_yy x.2.2.1).cls = true) &&
    decide (((parseMethodDescriptor (pz_yy x.2.2.1).desc).map (fun d => d.parameters.length + (if w.2.2.1 = 1 then 1 else 0))).getD 1000 ≤ pz_ml x.2.2.1) && (if x.2.2.2.1 = 0 ∨ x.2.2.2.1 = 3 ∨ x.2.2.2.1 = 4 then decide (w.2.2.1 = 1) else true)))))
  | none => false
/-- the same, the code's own word left out -/
def pz_cr1 (x : String × Nat × Nat × Nat × Nat) : Bool := match pz_mw[x.2.2.1]? with
  | some w => decide (lw_tbl[w.2.2.2.2]? = some (.initialized (pz_yy x.2.2.1).cls)) &&
    ((if x.2.2.2.1 = 2 ∨ x.2.2.2.1 = 4 then decide (lw_tbl[x.2.2.2.2]? = some (.methodLinkNest x.1 x.2.1 (pz_yy x.2.2.1) "Simplespan")) else decide (lw_tbl[x.2.2.2.2]? = some (.methodLink x.1 x.2.1 (pz_yy x.2.2.1)))) &&
    ((if x.2.2.2.1 = 0 then decide (lw_tbl[w.2.1]? = some (.instanceMethod (pz_yy x.2.2.1))) && decide (lw_tbl[w.2.2.2.1]? = some (.selects (pz_yy x.2.2.1).cls (pz_yy x.2.2.1) (pz_yy x.2.2.1)))
      else if x.2.2.2.1 = 3 ∨ x.2.2.2.1 = 4 then decide (lw_tbl[w.2.1]? = some (.instanceMethod (pz_yy x.2.2.1))) && (decide ((pz_yy x.2.2.1).name = "<init>") && decide (pz_rt x.2.2.1 = none))
      else decide (lw_tbl[w.2.1]? = some (.static (pz_yy x.2.2.1)))) &&
    (decide ((pz_yy x.2.2.1).cls ≠ "java/lang/invoke/MethodHandle" ∧ (pz_yy x.2.2.1).cls ≠ "java/lang/invoke/VarHandle" ∧ plainName (pz_yy x.2.2.1).cls = true) &&
    decide (((parseMethodDescriptor (pz_yy x.2.2.1).desc).map (fun d => d.parameters.length + (if w.2.2.1 = 1 then 1 else 0))).getD 1000 ≤ pz_ml x.2.2.1) && (if x.2.2.2.1 = 0 ∨ x.2.2.2.1 = 3 ∨ x.2.2.2.1 = 4 then decide (w.2.2.1 = 1) else true))))
  | none => false
example : ((pz_cl.drop 0).take 1).all pz_cr1 = true := by decide +kernel
example : ((pz_cl.drop 1).take 1).all pz_cr1 = true := by decide +kernel
example : ((pz_cl.drop 2).take 1).all pz_cr1 = true := by decide +kernel
example : ((pz_cl.drop 3).take 1).all pz_cr1 = true := by decide +kernel
example : ((pz_cl.drop 4).take 1).all pz_cr1 = true := by decide +kernel
example : ((pz_cl.drop 5).take 1).all pz_cr1 = true := by decide +kernel
example : ((pz_cl.drop 6).take 1).all pz_cr1 = true := by decide +kernel
example : ((pz_cl.drop 7).take 1).all pz_cr1 = true := by decide +kernel
example : ((pz_cl.drop 8).take 1).all pz_cr1 = true := by decide +kernel
example : ((pz_cl.drop 9).take 1).all pz_cr1 = true := by decide +kernel
example : ((pz_cl.drop 10).take 1).all pz_cr1 = true := by decide +kernel
example : ((pz_cl.drop 11).take 1).all pz_cr1 = true := by decide +kernel
example : ((pz_cl.drop 55).take 1).all pz_cr1 = true := by decide +kernel
example : ((pz_cl.drop 56).take 1).all pz_cr1 = true := by decide +kernel
example : ((pz_cl.drop 57).take 1).all pz_cr1 = true := by decide +kernel
example : ((pz_cl.drop 58).take 1).all pz_cr1 = true := by decide +kernel
example : ((pz_cl.drop 59).take 1).all pz_cr1 = true := by decide +kernel
example : ((pz_cl.drop 60).take 1).all pz_cr1 = true := by decide +kernel
example : ((pz_cl.drop 61).take 1).all pz_cr1 = true := by decide +kernel
example : ((pz_cl.drop 62).take 1).all pz_cr1 = true := by decide +kernel
example : ((pz_cl.drop 63).take 1).all pz_cr1 = true := by decide +kernel
example : ((pz_cl.drop 64).take 1).all pz_cr1 = true := by decide +kernel
example : ((pz_cl.drop 65).take 1).all pz_cr1 = true := by decide +kernel
example : ((pz_cl.drop 66).take 1).all pz_cr1 = true := by decide +kernel
example : ((pz_cl.drop 67).take 1).all pz_cr1 = true := by decide +kernel
example : ((pz_cl.drop 68).take 1).all pz_cr1 = true := by decide +kernel
example : ((pz_cl.drop 69).take 1).all pz_cr1 = true := by decide +kernel
example : ((pz_cl.drop 70).take 1).all pz_cr1 = true := by decide +kernel
example : ((pz_cl.drop 71).take 1).all pz_cr1 = true := by decide +kernel
example : ((pz_cl.drop 72).take 1).all pz_cr1 = true := by decide +kernel
example : ((pz_cl.drop 73).take 1).all pz_cr1 = true := by decide +kernel
example : ((pz_cl.drop 74).take 1).all pz_cr1 = true := by decide +kernel
example : ((pz_cl.drop 85).take 1).all pz_cr1 = true := by decide +kernel
example : ((pz_cl.drop 86).take 1).all pz_cr1 = true := by decide +kernel
example : ((pz_cl.drop 87).take 1).all pz_cr1 = true := by decide +kernel
example : ((pz_cl.drop 88).take 1).all pz_cr1 = true := by decide +kernel
example : ((pz_cl.drop 89).take 1).all pz_cr1 = true := by decide +kernel
example : ((pz_cl.drop 90).take 1).all pz_cr1 = true := by decide +kernel
example : ((pz_cl.drop 91).take 1).all pz_cr1 = true := by decide +kernel
example : ((pz_cl.drop 92).take 1).all pz_cr1 = true := by decide +kernel
example : ((pz_cl.drop 93).take 1).all pz_cr1 = true := by decide +kernel
example : ((pz_cl.drop 94).take 1).all pz_cr1 = true := by decide +kernel
example : ((pz_cl.drop 120).take 1).all pz_cr1 = true := by decide +kernel
example : ((pz_cl.drop 121).take 1).all pz_cr1 = true := by decide +kernel
example : ((pz_cl.drop 122).take 1).all pz_cr1 = true := by decide +kernel
example : ((pz_cl.drop 123).take 1).all pz_cr1 = true := by decide +kernel
example : ((pz_cl.drop 124).take 1).all pz_cr1 = true := by decide +kernel
example : ((pz_cl.drop 125).take 1).all pz_cr1 = true := by decide +kernel
example : ((pz_cl.drop 126).take 1).all pz_cr1 = true := by decide +kernel
example : ((pz_cl.drop 127).take 1).all pz_cr1 = true := by decide +kernel
example : ((pz_cl.drop 128).take 1).all pz_cr1 = true := by decide +kernel
example : ((pz_cl.drop 129).take 1).all pz_cr1 = true := by decide +kernel
example : ((pz_cl.drop 150).take 1).all pz_cr1 = true := by decide +kernel
example : ((pz_cl.drop 151).take 1).all pz_cr1 = true := by decide +kernel
example : ((pz_cl.drop 152).take 1).all pz_cr1 = true := by decide +kernel
example : ((pz_cl.drop 153).take 1).all pz_cr1 = true := by decide +kernel
example : ((pz_cl.drop 154).take 1).all pz_cr1 = true := by decide +kernel
theorem pz_cdt0 : (List.range' 0 5).map (fun t => lw_tbl[(pz_mw.getD t (0, 0, 0, 0, 0)).1]?) = (List.range' 0 5).map (fun t => some (pz_hd t)) := rfl
theorem pz_cdt100 : (List.range' 100 5).map (fun t => lw_tbl[(pz_mw.getD t (0, 0, 0, 0, 0)).1]?) = (List.range' 100 5).map (fun t => some (pz_hd t)) := rfl
theorem pz_cdt200 : (List.range' 200 5).map (fun t => lw_tbl[(pz_mw.getD t (0, 0, 0, 0, 0)).1]?) = (List.range' 200 5).map (fun t => some (pz_hd t)) := rfl
