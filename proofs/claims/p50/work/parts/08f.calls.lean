/-! contracts of the evaluator's runs -/
def pz_wn : Cond → Bool
  | .declares _ => true
  | .castable _ _ => true
  | .methodLinkNest _ _ _ _ => true
  | _ => false
def pz_bd : List Cond := lw_tbl.filter pz_wn
theorem pz_bd_in {w : Cond} (i : Nat) (h : lw_tbl[i]? = some w) (g : pz_wn w = true) : w ∈ pz_bd := List.mem_filter.mpr ⟨List.mem_of_getElem? h, g⟩
theorem pz_wn_warm {w : Cond} (g : pz_wn w = true) {s U : State} (hW : s.WarmedH U.vm) (h : va_Nw w s) : va_Nw w U := by
  unfold pz_wn at g
  split at g
  · exact va_Nw.warmD hW h
  · exact va_Nw.warmC hW h
  · exact va_Nw.warmM hW h
  · cases g
/-- what the tables say, kept by every run -/
def pz_En (D : va_G) (dA : Nat → ClassId) (sa : Nat → Nat) (U : State) : Prop :=
  va_K D pz_cls (pz_tys dA) U ∧ va_AO "Simplespan$Plan" U ∧ (∀ w ∈ pz_bd, va_Nw w U) ∧
  (∀ (k : Nat) (o : String) (ik is ic E wd : Nat) (tx : String), pz_tl[k]? = some (o, ik, is, ic, E, wd, tx) → vk_R o is tx (sa k) U) ∧
  (∀ (a b : Nat) (x y : String), pz_xn[a]? = some x → pz_xn[b]? = some y → a ≠ b → va_Nc x y U)
theorem pz_En.warm {D : va_G} {dA : Nat → ClassId} {sa : Nat → Nat} {s U : State} (hW : s.WarmedH U.vm) (h : pz_En D dA sa s) : pz_En D dA sa U := by
  obtain ⟨h1, h2, h3, h4, h5⟩ := h
  exact ⟨va_K.moved hW.alike h1, va_AO.moved hW.alike h2, fun w hw => pz_wn_warm (List.mem_filter.mp hw).2 hW (h3 w hw), fun k o ik is ic E wd tx hk => vk_R.warm hW (h4 k o ik is ic E wd tx hk), fun a b x y ha hb hn => va_Nc.moved hW.alike (h5 a b x y ha hb hn)⟩
/-- statics and the script, below Z -/
def pz_St (Z L : Nat) (xs : Nat → Int32) (b : Nat) (U : State) : Prop :=
  Z ≤ U.heap.size ∧ va_X b L xs U U.heap ∧ b < Z ∧ vx_Zq Bundle.tN "UNASSIGNED_STACK" Bundle.steD (fun q => Z ≤ q) U U.heap ∧ vx_Zq Bundle.tN "SUPPRESSED_SENTINEL" Bundle.listD (fun q => Z ≤ q) U U.heap
theorem pz_St.moved {Z L : Nat} {xs : Nat → Int32} {b : Nat} {s U : State} {H : Heap} {locs : List Loc} (h : pz_St Z L xs b s) (hS : va_S (fun q => Z ≤ q) s.heap H locs) (hU : U.heap = H) (hvm : s.vm.Alike U.vm) : pz_St Z L xs b U := by
  obtain ⟨h1, h2, h3, h4, h5⟩ := h
  subst hU
  exact ⟨Nat.le_trans h1 hS.1, va_X.moved hvm (h2.kept (hS.2.1 b (Nat.lt_of_lt_of_le h3 h1) (by omega))), h3, vx_Zq.moved hvm (h4.kept hS.2.1), vx_Zq.moved hvm (h5.kept hS.2.1)⟩
def pz_Pc (Z L : Nat) (xs : Nat → Int32) (D : va_G) (dA : Nat → ClassId) (sa : Nat → Nat) (ad : Nat → Nat) (as : List pz_V) (h : pz_H) : Array Value → State → Prop := fun v U =>
  v = (as.map (pz_e ad)).toArray ∧ pz_En D dA sa U ∧ pz_St Z L xs (ad 1) U ∧ va_P D pz_cls (pz_ws ad dA h) U.heap ∧ va_D (fun q => Z ≤ q) (pz_ws ad dA h)
def pz_Qc (Z : Nat) (D : va_G) (dA : Nat → ClassId) (ad : Nat → Nat) (h : pz_H) (o : Option pz_V ⊕ Nat) (h' : pz_H) : Array Value → State → Outcome → State → Prop := fun _ st oc t =>
  ∃ (v : Option pz_V) (ad' : Nat → Nat), o = .inl v ∧ (∀ r, r < h.1.1 + 2 → ad' r = ad r) ∧ oc = .returned (v.map (pz_e ad')) ∧ va_P D pz_cls (pz_ws ad' dA h') t.heap ∧ va_D (fun q => Z ≤ q) (pz_ws ad' dA h') ∧ va_F (fun q => Z ≤ q) st t
def pz_XC (Z : Nat) (D : va_G) (dA : Nat → ClassId) (ad : Nat → Nat) (h : pz_H) (o : Option pz_V ⊕ Nat) (h' : pz_H) : String → State → State → Prop := fun E st t =>
  ∃ (k : Nat) (ad' : Nat → Nat), o = .inr k ∧ pz_xn[k]? = some E ∧ (∀ r, r < h.1.1 + 2 → ad' r = ad r) ∧ va_P D pz_cls (pz_ws ad' dA h') t.heap ∧ va_D (fun q => Z ≤ q) (pz_ws ad' dA h') ∧ va_F (fun q => Z ≤ q) st t
def pz_hd (m : Nat) : Cond := if (pz_hh m).isEmpty then Cond.code (pz_yy m) (pz_bs m) (pz_ml m) (pz_rt m) else Cond.codeWith (pz_yy m) (pz_bs m) (pz_ml m) (pz_rt m) (pz_hh m)
def pz_rm (m mc ms : Nat) : Room := { frames := pz_fr m, cells := mc, slots := ms, locals := pz_lo m }
def pz_Me (l : Launch) (Z L : Nat) (xs : Nat → Int32) (D : va_G) (dA : Nat → ClassId) (sa : Nat → Nat) (m : Nat) (ad : Nat → Nat) (as : List pz_V) (h : pz_H) (o : Option pz_V ⊕ Nat) (h' : pz_H) : Prop :=
  vx_Met l (pz_yy m) (pz_hd m :: pz_gd) (pz_rm m (h'.2.2.2.1 - h.2.2.2.1) (h'.2.2.2.2 - h.2.2.2.2)) (pz_Pc Z L xs D dA sa ad as h) (pz_Qc Z D dA ad h o h') (pz_XC Z D dA ad h o h') (h'.2.2.2.1 - h.2.2.2.1) (h'.2.2.2.2 - h.2.2.2.2) (fun q => Z ≤ q)
theorem pz_blind {Z L : Nat} {xs : Nat → Int32} {D : va_G} {dA : Nat → ClassId} {sa ad : Nat → Nat} {as : List pz_V} {h : pz_H} : FrameBlind (pz_Pc Z L xs D dA sa ad as h) := by
  intro a U g mk q
  obtain ⟨q1, q2, ⟨q3, q4, q5, q6, q7⟩, q8, q9⟩ := q
  exact ⟨q1, pz_En.warm (s := U) (U := U.calling g mk a) (State.WarmedH.refl U) q2, ⟨q3, va_X.moved (u := U) (U := U.calling g mk a) (Vm.Alike.refl U.vm) q4, q5, vx_Zq.moved (u := U) (U := U.calling g mk a) (Vm.Alike.refl U.vm) q6, vx_Zq.moved (u := U) (U := U.calling g mk a) (Vm.Alike.refl U.vm) q7⟩, q8, q9⟩
theorem pz_met {l : Launch} {y : MethodName} {ws : List Cond} {rm : Room} {Pc : Array Value → State → Prop} {Qc : Array Value → State → Outcome → State → Prop} {XC : String → State → State → Prop} {mc ms : Nat} {free : Addr → Prop} (h : vx_Met l y ws rm Pc Qc XC mc ms free) (hX : ∀ E st t, ¬ XC E st t) : Met l y ws rm Pc Qc mc ms free := by
  intro p e ha hc hk s m args below hf hap hp hK
  obtain ⟨n, o, h1, h2, h3, h4⟩ := h p e ha hc hk s m args below hf hap hp hK
  refine ⟨n, o, h1, h2, h3, ?_⟩
  rcases h4 with h4 | ⟨q, -, E, ce, L, hx, -⟩
  · exact h4
  · exact absurd hx (hX _ _ _)
section PZR
variable {p : Program} {l : Launch} {e : Env} {R : Room} {s : State} {m : MethodId} {args : Array Value} {below : List Frame} {meth : Method} {c : Code} {H : Heap} {locs : List Loc} {cells slots mc ms : Nat} {g : JFrame} {rest : List Value} {Qa : State → Outcome → State → Prop} {XC : String → State → State → Prop} {free : Addr → Prop}
theorem pz_vx_run (h : va_Run p l e R s m args below meth c H locs cells slots mc ms g rest Qa free) : vx_Run p l e R s m args below meth c H locs cells slots mc ms g rest Qa XC free := by
  intro T hT X
  obtain ⟨v, st0, t, T', L, h1, h2, h3, h4, h5, h6, h7⟩ := h T hT X
  exact Or.inl ⟨v, st0, t, T', L, h1, h2, h3, h4, h5, h6, h7⟩
end PZR
/-- what the tables say of a call -/
def pz_cr (x : String × Nat × Nat × Nat × Nat) : Bool := match pz_mw[x.2.2.1]? with
  | some w => decide (lw_tbl[w.1]? = some (pz_hd x.2.2.1)) && (decide (lw_tbl[w.2.2.2.2]? = some (.initialized (pz_yy x.2.2.1).cls)) &&
    ((if x.2.2.2.1 = 2 ∨ x.2.2.2.1 = 4 then decide (lw_tbl[x.2.2.2.2]? = some (.methodLinkNest x.1 x.2.1 (pz_yy x.2.2.1) "Simplespan")) else decide (lw_tbl[x.2.2.2.2]? = some (.methodLink x.1 x.2.1 (pz_yy x.2.2.1)))) &&
    ((if x.2.2.2.1 = 0 then decide (lw_tbl[w.2.1]? = some (.instanceMethod (pz_yy x.2.2.1))) && decide (lw_tbl[w.2.2.2.1]? = some (.selects (pz_yy x.2.2.1).cls (pz_yy x.2.2.1) (pz_yy x.2.2.1)))
      else if x.2.2.2.1 = 3 ∨ x.2.2.2.1 = 4 then decide (lw_tbl[w.2.1]? = some (.instanceMethod (pz_yy x.2.2.1))) && (decide ((pz_yy x.2.2.1).name = "<init>") && decide (pz_rt x.2.2.1 = none))
      else decide (lw_tbl[w.2.1]? = some (.static (pz_yy x.2.2.1)))) &&
    (decide ((pz_yy x.2.2.1).cls ≠ "java/lang/invoke/MethodHandle" ∧ (pz_yy x.2.2.1).cls ≠ "java/lang/invoke/VarHandle" ∧ plainFor (pz_yy x.2.2.1) = true) &&
    decide (((parseMethodDescriptor (pz_yy x.2.2.1).desc).map (fun d => d.parameters.length + (if w.2.2.1 = 1 then 1 else 0))).getD 1000 ≤ pz_ml x.2.2.1) && (if x.2.2.2.1 = 0 ∨ x.2.2.2.1 = 3 ∨ x.2.2.2.1 = 4 then decide (w.2.2.1 = 1) else true)))))
  | none => false
/-- the same, the code's own word left out -/
def pz_cr1 (x : String × Nat × Nat × Nat × Nat) : Bool := match pz_mw[x.2.2.1]? with
  | some w => decide (x.2.2.1 < 231) && (decide (lw_tbl[w.2.2.2.2]? = some (.initialized (pz_yy x.2.2.1).cls)) &&
    ((if x.2.2.2.1 = 2 ∨ x.2.2.2.1 = 4 then decide (lw_tbl[x.2.2.2.2]? = some (.methodLinkNest x.1 x.2.1 (pz_yy x.2.2.1) "Simplespan")) else decide (lw_tbl[x.2.2.2.2]? = some (.methodLink x.1 x.2.1 (pz_yy x.2.2.1)))) &&
    ((if x.2.2.2.1 = 0 then decide (lw_tbl[w.2.1]? = some (.instanceMethod (pz_yy x.2.2.1))) && decide (lw_tbl[w.2.2.2.1]? = some (.selects (pz_yy x.2.2.1).cls (pz_yy x.2.2.1) (pz_yy x.2.2.1)))
      else if x.2.2.2.1 = 3 ∨ x.2.2.2.1 = 4 then decide (lw_tbl[w.2.1]? = some (.instanceMethod (pz_yy x.2.2.1))) && (decide ((pz_yy x.2.2.1).name = "<init>") && decide (pz_rt x.2.2.1 = none))
      else decide (lw_tbl[w.2.1]? = some (.static (pz_yy x.2.2.1)))) &&
    (decide ((pz_yy x.2.2.1).cls ≠ "java/lang/invoke/MethodHandle" ∧ (pz_yy x.2.2.1).cls ≠ "java/lang/invoke/VarHandle" ∧ plainFor (pz_yy x.2.2.1) = true) &&
    decide (((parseMethodDescriptor (pz_yy x.2.2.1).desc).map (fun d => d.parameters.length + (if w.2.2.1 = 1 then 1 else 0))).getD 1000 ≤ pz_ml x.2.2.1) && (if x.2.2.2.1 = 0 ∨ x.2.2.2.1 = 3 ∨ x.2.2.2.1 = 4 then decide (w.2.2.1 = 1) else true)))))
  | none => false
theorem pz_crB0 : ((pz_cl.drop 0).take 30).all pz_cr1 = true := by decide +kernel
theorem pz_crB30 : ((pz_cl.drop 30).take 30).all pz_cr1 = true := by decide +kernel
theorem pz_crB60 : ((pz_cl.drop 60).take 30).all pz_cr1 = true := by decide +kernel
theorem pz_crB90 : ((pz_cl.drop 90).take 30).all pz_cr1 = true := by decide +kernel
theorem pz_crB120 : ((pz_cl.drop 120).take 30).all pz_cr1 = true := by decide +kernel
theorem pz_crB150 : ((pz_cl.drop 150).take 30).all pz_cr1 = true := by decide +kernel
theorem pz_crB180 : ((pz_cl.drop 180).take 30).all pz_cr1 = true := by decide +kernel
theorem pz_crB210 : ((pz_cl.drop 210).take 30).all pz_cr1 = true := by decide +kernel
theorem pz_crB240 : ((pz_cl.drop 240).take 30).all pz_cr1 = true := by decide +kernel
theorem pz_crB270 : ((pz_cl.drop 270).take 30).all pz_cr1 = true := by decide +kernel
theorem pz_crB300 : ((pz_cl.drop 300).take 30).all pz_cr1 = true := by decide +kernel
theorem pz_cl_len : pz_cl.length ≤ 330 := by decide +kernel
set_option maxRecDepth 100000 in
theorem pz_cd0 : (List.range' 0 8).map (fun t => lw_tbl[(pz_mw.getD t (0, 0, 0, 0, 0)).1]?) = (List.range' 0 8).map (fun t => some (pz_hd t)) := rfl
set_option maxRecDepth 100000 in
theorem pz_cd8 : (List.range' 8 8).map (fun t => lw_tbl[(pz_mw.getD t (0, 0, 0, 0, 0)).1]?) = (List.range' 8 8).map (fun t => some (pz_hd t)) := rfl
set_option maxRecDepth 100000 in
theorem pz_cd16 : (List.range' 16 8).map (fun t => lw_tbl[(pz_mw.getD t (0, 0, 0, 0, 0)).1]?) = (List.range' 16 8).map (fun t => some (pz_hd t)) := rfl
set_option maxRecDepth 100000 in
theorem pz_cd24 : (List.range' 24 8).map (fun t => lw_tbl[(pz_mw.getD t (0, 0, 0, 0, 0)).1]?) = (List.range' 24 8).map (fun t => some (pz_hd t)) := rfl
set_option maxRecDepth 100000 in
theorem pz_cd32 : (List.range' 32 8).map (fun t => lw_tbl[(pz_mw.getD t (0, 0, 0, 0, 0)).1]?) = (List.range' 32 8).map (fun t => some (pz_hd t)) := rfl
set_option maxRecDepth 100000 in
theorem pz_cd40 : (List.range' 40 8).map (fun t => lw_tbl[(pz_mw.getD t (0, 0, 0, 0, 0)).1]?) = (List.range' 40 8).map (fun t => some (pz_hd t)) := rfl
set_option maxRecDepth 100000 in
theorem pz_cd48 : (List.range' 48 8).map (fun t => lw_tbl[(pz_mw.getD t (0, 0, 0, 0, 0)).1]?) = (List.range' 48 8).map (fun t => some (pz_hd t)) := rfl
set_option maxRecDepth 100000 in
theorem pz_cd56 : (List.range' 56 8).map (fun t => lw_tbl[(pz_mw.getD t (0, 0, 0, 0, 0)).1]?) = (List.range' 56 8).map (fun t => some (pz_hd t)) := rfl
set_option maxRecDepth 100000 in
theorem pz_cd64 : (List.range' 64 8).map (fun t => lw_tbl[(pz_mw.getD t (0, 0, 0, 0, 0)).1]?) = (List.range' 64 8).map (fun t => some (pz_hd t)) := rfl
set_option maxRecDepth 100000 in
theorem pz_cd72 : (List.range' 72 8).map (fun t => lw_tbl[(pz_mw.getD t (0, 0, 0, 0, 0)).1]?) = (List.range' 72 8).map (fun t => some (pz_hd t)) := rfl
set_option maxRecDepth 100000 in
theorem pz_cd80 : (List.range' 80 8).map (fun t => lw_tbl[(pz_mw.getD t (0, 0, 0, 0, 0)).1]?) = (List.range' 80 8).map (fun t => some (pz_hd t)) := rfl
set_option maxRecDepth 100000 in
theorem pz_cd88 : (List.range' 88 8).map (fun t => lw_tbl[(pz_mw.getD t (0, 0, 0, 0, 0)).1]?) = (List.range' 88 8).map (fun t => some (pz_hd t)) := rfl
set_option maxRecDepth 100000 in
theorem pz_cd96 : (List.range' 96 8).map (fun t => lw_tbl[(pz_mw.getD t (0, 0, 0, 0, 0)).1]?) = (List.range' 96 8).map (fun t => some (pz_hd t)) := rfl
set_option maxRecDepth 100000 in
theorem pz_cd104 : (List.range' 104 8).map (fun t => lw_tbl[(pz_mw.getD t (0, 0, 0, 0, 0)).1]?) = (List.range' 104 8).map (fun t => some (pz_hd t)) := rfl
set_option maxRecDepth 100000 in
theorem pz_cd112 : (List.range' 112 8).map (fun t => lw_tbl[(pz_mw.getD t (0, 0, 0, 0, 0)).1]?) = (List.range' 112 8).map (fun t => some (pz_hd t)) := rfl
set_option maxRecDepth 100000 in
theorem pz_cd120 : (List.range' 120 8).map (fun t => lw_tbl[(pz_mw.getD t (0, 0, 0, 0, 0)).1]?) = (List.range' 120 8).map (fun t => some (pz_hd t)) := rfl
set_option maxRecDepth 100000 in
theorem pz_cd128 : (List.range' 128 8).map (fun t => lw_tbl[(pz_mw.getD t (0, 0, 0, 0, 0)).1]?) = (List.range' 128 8).map (fun t => some (pz_hd t)) := rfl
set_option maxRecDepth 100000 in
theorem pz_cd136 : (List.range' 136 8).map (fun t => lw_tbl[(pz_mw.getD t (0, 0, 0, 0, 0)).1]?) = (List.range' 136 8).map (fun t => some (pz_hd t)) := rfl
set_option maxRecDepth 100000 in
theorem pz_cd144 : (List.range' 144 8).map (fun t => lw_tbl[(pz_mw.getD t (0, 0, 0, 0, 0)).1]?) = (List.range' 144 8).map (fun t => some (pz_hd t)) := rfl
set_option maxRecDepth 100000 in
theorem pz_cd152 : (List.range' 152 8).map (fun t => lw_tbl[(pz_mw.getD t (0, 0, 0, 0, 0)).1]?) = (List.range' 152 8).map (fun t => some (pz_hd t)) := rfl
set_option maxRecDepth 100000 in
theorem pz_cd160 : (List.range' 160 8).map (fun t => lw_tbl[(pz_mw.getD t (0, 0, 0, 0, 0)).1]?) = (List.range' 160 8).map (fun t => some (pz_hd t)) := rfl
set_option maxRecDepth 100000 in
theorem pz_cd168 : (List.range' 168 8).map (fun t => lw_tbl[(pz_mw.getD t (0, 0, 0, 0, 0)).1]?) = (List.range' 168 8).map (fun t => some (pz_hd t)) := rfl
set_option maxRecDepth 100000 in
theorem pz_cd176 : (List.range' 176 8).map (fun t => lw_tbl[(pz_mw.getD t (0, 0, 0, 0, 0)).1]?) = (List.range' 176 8).map (fun t => some (pz_hd t)) := rfl
set_option maxRecDepth 100000 in
theorem pz_cd184 : (List.range' 184 8).map (fun t => lw_tbl[(pz_mw.getD t (0, 0, 0, 0, 0)).1]?) = (List.range' 184 8).map (fun t => some (pz_hd t)) := rfl
set_option maxRecDepth 100000 in
theorem pz_cd192 : (List.range' 192 8).map (fun t => lw_tbl[(pz_mw.getD t (0, 0, 0, 0, 0)).1]?) = (List.range' 192 8).map (fun t => some (pz_hd t)) := rfl
set_option maxRecDepth 100000 in
theorem pz_cd200 : (List.range' 200 8).map (fun t => lw_tbl[(pz_mw.getD t (0, 0, 0, 0, 0)).1]?) = (List.range' 200 8).map (fun t => some (pz_hd t)) := rfl
set_option maxRecDepth 100000 in
theorem pz_cd208 : (List.range' 208 8).map (fun t => lw_tbl[(pz_mw.getD t (0, 0, 0, 0, 0)).1]?) = (List.range' 208 8).map (fun t => some (pz_hd t)) := rfl
set_option maxRecDepth 100000 in
theorem pz_cd216 : (List.range' 216 8).map (fun t => lw_tbl[(pz_mw.getD t (0, 0, 0, 0, 0)).1]?) = (List.range' 216 8).map (fun t => some (pz_hd t)) := rfl
set_option maxRecDepth 100000 in
theorem pz_cd224 : (List.range' 224 7).map (fun t => lw_tbl[(pz_mw.getD t (0, 0, 0, 0, 0)).1]?) = (List.range' 224 7).map (fun t => some (pz_hd t)) := rfl
theorem pz_in_chunk {α : Type} {f : α → Bool} {l : List α} {a n e : Nat} {x : α} (h : ((l.drop a).take n).all f = true) (hx : l[e]? = some x) (h1 : a ≤ e) (h2 : e < a + n) : f x = true := by
  refine List.all_eq_true.mp h x (List.mem_of_getElem? (i := e - a) ?_)
  rw [List.getElem?_take, if_pos (by omega), List.getElem?_drop]
  rw [show a + (e - a) = e by omega]
  exact hx
theorem pz_cd_at {t a n : Nat} (h : (List.range' a n).map (fun t => lw_tbl[(pz_mw.getD t (0, 0, 0, 0, 0)).1]?) = (List.range' a n).map (fun t => some (pz_hd t))) (h1 : a ≤ t) (h2 : t < a + n) : lw_tbl[(pz_mw.getD t (0, 0, 0, 0, 0)).1]? = some (pz_hd t) :=
  List.map_inj_left.mp h t (by rw [List.mem_range'_1]; exact ⟨h1, h2⟩)
theorem pz_cd_ok {t : Nat} (ht : t < 231) : lw_tbl[(pz_mw.getD t (0, 0, 0, 0, 0)).1]? = some (pz_hd t) := by
  rcases Nat.lt_or_ge t 8 with q | q
  · exact pz_cd_at pz_cd0 (by omega) (by omega)
  rcases Nat.lt_or_ge t 16 with q | q
  · exact pz_cd_at pz_cd8 (by omega) (by omega)
  rcases Nat.lt_or_ge t 24 with q | q
  · exact pz_cd_at pz_cd16 (by omega) (by omega)
  rcases Nat.lt_or_ge t 32 with q | q
  · exact pz_cd_at pz_cd24 (by omega) (by omega)
  rcases Nat.lt_or_ge t 40 with q | q
  · exact pz_cd_at pz_cd32 (by omega) (by omega)
  rcases Nat.lt_or_ge t 48 with q | q
  · exact pz_cd_at pz_cd40 (by omega) (by omega)
  rcases Nat.lt_or_ge t 56 with q | q
  · exact pz_cd_at pz_cd48 (by omega) (by omega)
  rcases Nat.lt_or_ge t 64 with q | q
  · exact pz_cd_at pz_cd56 (by omega) (by omega)
  rcases Nat.lt_or_ge t 72 with q | q
  · exact pz_cd_at pz_cd64 (by omega) (by omega)
  rcases Nat.lt_or_ge t 80 with q | q
  · exact pz_cd_at pz_cd72 (by omega) (by omega)
  rcases Nat.lt_or_ge t 88 with q | q
  · exact pz_cd_at pz_cd80 (by omega) (by omega)
  rcases Nat.lt_or_ge t 96 with q | q
  · exact pz_cd_at pz_cd88 (by omega) (by omega)
  rcases Nat.lt_or_ge t 104 with q | q
  · exact pz_cd_at pz_cd96 (by omega) (by omega)
  rcases Nat.lt_or_ge t 112 with q | q
  · exact pz_cd_at pz_cd104 (by omega) (by omega)
  rcases Nat.lt_or_ge t 120 with q | q
  · exact pz_cd_at pz_cd112 (by omega) (by omega)
  rcases Nat.lt_or_ge t 128 with q | q
  · exact pz_cd_at pz_cd120 (by omega) (by omega)
  rcases Nat.lt_or_ge t 136 with q | q
  · exact pz_cd_at pz_cd128 (by omega) (by omega)
  rcases Nat.lt_or_ge t 144 with q | q
  · exact pz_cd_at pz_cd136 (by omega) (by omega)
  rcases Nat.lt_or_ge t 152 with q | q
  · exact pz_cd_at pz_cd144 (by omega) (by omega)
  rcases Nat.lt_or_ge t 160 with q | q
  · exact pz_cd_at pz_cd152 (by omega) (by omega)
  rcases Nat.lt_or_ge t 168 with q | q
  · exact pz_cd_at pz_cd160 (by omega) (by omega)
  rcases Nat.lt_or_ge t 176 with q | q
  · exact pz_cd_at pz_cd168 (by omega) (by omega)
  rcases Nat.lt_or_ge t 184 with q | q
  · exact pz_cd_at pz_cd176 (by omega) (by omega)
  rcases Nat.lt_or_ge t 192 with q | q
  · exact pz_cd_at pz_cd184 (by omega) (by omega)
  rcases Nat.lt_or_ge t 200 with q | q
  · exact pz_cd_at pz_cd192 (by omega) (by omega)
  rcases Nat.lt_or_ge t 208 with q | q
  · exact pz_cd_at pz_cd200 (by omega) (by omega)
  rcases Nat.lt_or_ge t 216 with q | q
  · exact pz_cd_at pz_cd208 (by omega) (by omega)
  rcases Nat.lt_or_ge t 224 with q | q
  · exact pz_cd_at pz_cd216 (by omega) (by omega)
  rcases Nat.lt_or_ge t 231 with q | q
  · exact pz_cd_at pz_cd224 (by omega) (by omega)
  omega
theorem pz_cr1_ok {e : Nat} {x : String × Nat × Nat × Nat × Nat} (h : pz_cl[e]? = some x) : pz_cr1 x = true := by
  have hl : e < 330 := Nat.lt_of_lt_of_le (List.getElem?_eq_some_iff.mp h).1 pz_cl_len
  rcases Nat.lt_or_ge e 30 with q | q
  · exact pz_in_chunk pz_crB0 h (by omega) (by omega)
  rcases Nat.lt_or_ge e 60 with q | q
  · exact pz_in_chunk pz_crB30 h (by omega) (by omega)
  rcases Nat.lt_or_ge e 90 with q | q
  · exact pz_in_chunk pz_crB60 h (by omega) (by omega)
  rcases Nat.lt_or_ge e 120 with q | q
  · exact pz_in_chunk pz_crB90 h (by omega) (by omega)
  rcases Nat.lt_or_ge e 150 with q | q
  · exact pz_in_chunk pz_crB120 h (by omega) (by omega)
  rcases Nat.lt_or_ge e 180 with q | q
  · exact pz_in_chunk pz_crB150 h (by omega) (by omega)
  rcases Nat.lt_or_ge e 210 with q | q
  · exact pz_in_chunk pz_crB180 h (by omega) (by omega)
  rcases Nat.lt_or_ge e 240 with q | q
  · exact pz_in_chunk pz_crB210 h (by omega) (by omega)
  rcases Nat.lt_or_ge e 270 with q | q
  · exact pz_in_chunk pz_crB240 h (by omega) (by omega)
  rcases Nat.lt_or_ge e 300 with q | q
  · exact pz_in_chunk pz_crB270 h (by omega) (by omega)
  rcases Nat.lt_or_ge e 330 with q | q
  · exact pz_in_chunk pz_crB300 h (by omega) (by omega)
  omega
theorem pz_cr_ok {e : Nat} {x : String × Nat × Nat × Nat × Nat} (h : pz_cl[e]? = some x) : pz_cr x = true := by
  have h1 := pz_cr1_ok h
  unfold pz_cr1 at h1
  unfold pz_cr
  cases hw : pz_mw[x.2.2.1]? with
  | none =>
    rw [hw] at h1
    cases h1
  | some w =>
    rw [hw] at h1
    try dsimp only at h1
    have h3 := Bool.and_eq_true_iff.mp h1
    have h2 := pz_cd_ok (of_decide_eq_true h3.1)
    rw [List.getD_eq_getElem?_getD, hw] at h2
    exact Bool.and_eq_true_iff.mpr ⟨decide_eq_true h2, h3.2⟩
/-- the method a may be called: its words stand -/
def pz_cb (a : Nat) : Prop := pz_hd a ∈ pz_gd ∧ Cond.initialized (pz_yy a).cls ∈ pz_gd ∧ (pz_yy a).cls ≠ "java/lang/invoke/MethodHandle" ∧ (pz_yy a).cls ≠ "java/lang/invoke/VarHandle" ∧ plainFor (pz_yy a) = true
theorem pz_hd_good (m : Nat) : goodWord (pz_hd m) = true := by
  unfold pz_hd
  split <;> rfl
theorem pz_ws_good {a : Nat} (h : pz_cb a) : GoodIn pz_gd (pz_hd a :: pz_gd) := by
  intro w hw
  rcases List.mem_cons.mp hw with rfl | hw
  · exact pz_gd_good h.1
  · exact pz_gd_good hw
theorem pz_cr_cb {o : String} {i t k w : Nat} (h : pz_cr (o, i, t, k, w) = true) : pz_cb t := by
  unfold pz_cr at h
  dsimp only at h
  split at h
  · simp only [Bool.and_eq_true, decide_eq_true_eq] at h
    exact ⟨pz_gd_in h.1 (pz_hd_good t), pz_gd_in h.2.1 rfl, h.2.2.2.2.1.1.1, h.2.2.2.2.1.1.2.1, h.2.2.2.2.1.1.2.2⟩
  · cases h
