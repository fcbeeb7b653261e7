/-! from a run of the evaluator to the claim -/
def pz_ck12 : Bool := (List.range 11).all (fun ci => match pz_cls[ci]?, pz_iw[ci]? with
  | some q, some w => decide (lw_tbl[w.1]? = some (.instantiable q.1 q.2.2))
  | _, _ => false)
theorem pz_ck12_ok : pz_ck12 = true := by decide +kernel
theorem pz_inst {ci : Nat} {q : vw_C} (h : pz_cls[ci]? = some q) : Cond.instantiable q.1 q.2.2 ∈ lw_tbl := by
  have h1 := List.all_eq_true.mp pz_ck12_ok ci (List.mem_range.mpr (pz_cls_lt h))
  rw [h] at h1
  split at h1
  · rename_i q1 w e1 e2
    cases e1
    exact List.mem_of_getElem? (of_decide_eq_true h1)
  · cases h1
def pz_strk : Bool := pz_tl.all (fun x => decide (Cond.stringRef x.1 x.2.2.1 x.2.2.2.2.2.2 ∈ lw_tbl))
theorem pz_strk_ok : pz_strk = true := by decide +kernel
def pz_nck : Bool := pz_xn.all (fun x => pz_xn.all (fun y => decide (x = y) || decide (Cond.not (.castable x y) ∈ flatC (Jvm.Cond.and given_1 narrow_1))))
theorem pz_nck_ok : pz_nck = true := by decide +kernel
theorem pz_xn_ne : ∀ (a b : Nat) (x : String), pz_xn[a]? = some x → pz_xn[b]? = some x → a = b := by
  intro a b x ha hb
  have h1 : ((List.range 5).all (fun a => (List.range 5).all (fun b => a == b || decide (pz_xn[a]? ≠ pz_xn[b]?)))) = true := by decide +kernel
  have la : a < 5 := by rw [← pz_xn_len]; exact (List.getElem?_eq_some_iff.mp ha).1
  have lb : b < 5 := by rw [← pz_xn_len]; exact (List.getElem?_eq_some_iff.mp hb).1
  have h2 := List.all_eq_true.mp (List.all_eq_true.mp h1 a (List.mem_range.mpr la)) b (List.mem_range.mpr lb)
  simp only [Bool.or_eq_true, beq_iff_eq, decide_eq_true_eq] at h2
  rcases h2 with h2 | h2
  · exact h2
  · exact absurd (ha.trans hb.symm) h2
theorem pz_thr : Cond.laysStatic Bundle.tN "UNASSIGNED_STACK" Bundle.steD ∈ lw_tbl ∧ Cond.laysStatic Bundle.tN "SUPPRESSED_SENTINEL" Bundle.listD ∈ lw_tbl ∧ Cond.initialized Bundle.tN ∈ lw_tbl ∧ Cond.arrayOver (.object "Simplespan$Plan") ∈ lw_tbl := by
  refine ⟨?_, ?_, ?_, ?_⟩ <;> decide +kernel
theorem pz_isr : Cond.isRef (.static Bundle.tN "UNASSIGNED_STACK" Bundle.steD) ∈ flatC (Jvm.Cond.and given_1 narrow_1) ∧ Cond.isRef (.static Bundle.tN "SUPPRESSED_SENTINEL" Bundle.listD) ∈ flatC (Jvm.Cond.and given_1 narrow_1) := by
  refine ⟨?_, ?_⟩ <;> decide +kernel
section PZS
variable {s : State} {args : Array Value}
theorem pz_arr {ty : FieldType} (h : (Cond.arrayClass ty).before args s = true) (hk : ∀ k : String, ty ≠ .object k := by intro k q; cases q) : ∃ cA, ArrOfT s cA ty ∧ s.vm.findClass ("[" ++ ty.toString) = some cA := by
  obtain ⟨c, k, comp, h1, h2, h3⟩ := Cond.arrayClass_spec h
  exact ⟨c, fun n z => ⟨(fun k h => by cases h), k, h2, comp, h3⟩, h1⟩
theorem pz_En_at (hts : ∀ w ∈ lw_tbl, w.before args s = true) (hgv : (Jvm.Cond.and given_1 narrow_1).before args s = true) : ∃ (D : va_G) (dA : Nat → ClassId) (sa : Nat → Nat), pz_En D dA sa s := by
  have hgd : ∀ w ∈ pz_gd, w.before args s = true := fun w hw => hts w (List.mem_filter.mp hw).1
  have hfl := flat_of_before _ hgv
  have hC : ∀ ci : Nat, ∃ (x : ClassId × (Nat → Nat)), ∀ q, pz_cls[ci]? = some q → u_Kn s q.1 q.2.1 q.2.2 x.1 x.2 := by
    intro ci
    cases h : pz_cls[ci]? with
    | none => exact ⟨(0, fun _ => 0), fun q hq => by cases hq⟩
    | some q =>
      obtain ⟨cC, iS, hk⟩ := u_known (C := q.1) (T := q.2.1) (N := q.2.2) hgd (pz_in h) (hts _ (pz_inst h))
      exact ⟨(cC, iS), fun q' hq => by cases hq; exact hk⟩
  obtain ⟨c20, a20, b20⟩ := pz_arr (hgd _ pz_ac.1)
  obtain ⟨c21, a21, b21⟩ := pz_arr (hgd _ pz_ac.2.1)
  obtain ⟨c22, a22, b22⟩ := pz_arr (hgd _ pz_ac.2.2)
  have hao := hts _ pz_thr.2.2.2
  obtain ⟨comp, c23, k23, f1, -, f2, f3, f4⟩ := Cond.arrayOver_spec hao
  have hsa : ∀ k : Nat, ∃ a : Nat, ∀ (o : String) (ik is ic E wd : Nat) (tx : String), pz_tl[k]? = some (o, ik, is, ic, E, wd, tx) → vk_R o is tx a s := by
    intro k
    cases h : pz_tl[k]? with
    | none => exact ⟨0, fun o ik is ic E wd tx hq => by cases hq⟩
    | some q =>
      obtain ⟨o, ik, is, ic, E, wd, tx⟩ := q
      have h1 := of_decide_eq_true (List.all_eq_true.mp pz_strk_ok _ (List.mem_of_getElem? h))
      have h2 := hts _ h1
      have ho := (pz_tl_at h).1
      have hcl : ∃ m9, s.vm.findClass o = some m9 := by
        obtain ⟨x, hx⟩ := hC 10
        subst ho
        exact ⟨x.1, (hx _ rfl).2.1⟩
      obtain ⟨m9, hm9⟩ := hcl
      obtain ⟨-, -, -, a, -, -, -, -, -, hev⟩ := Cond.stringRef_spec hm9 h2
      exact ⟨a, fun o' ik' is' ic' E' wd' tx' hq => by cases hq; exact vk_R.of h2 hev⟩
  refine ⟨(fun c => (Classical.choose (hC c)).1, fun c => (Classical.choose (hC c)).2), fun k => if k = 20 then c20 else if k = 21 then c21 else if k = 22 then c22 else c23, fun k => Classical.choose (hsa k), ⟨fun c q hq => Classical.choose_spec (hC c) q hq, fun k q hq => ?_⟩, va_AO.of hao, fun w hw => ?_, fun k o ik is ic E wd tx hk => Classical.choose_spec (hsa k) o ik is ic E wd tx hk, fun a b x y ha hb hne => ?_⟩
  · have hk6 : k < 4 := (List.getElem?_eq_some_iff.mp hq).1
    have h6 : k = 0 ∨ k = 1 ∨ k = 2 ∨ k = 3 := by omega
    rcases h6 with rfl | rfl | rfl | rfl <;> cases hq
    · exact ⟨a20, b20⟩
    · exact ⟨a21, b21⟩
    · exact ⟨a22, b22⟩
    · exact ⟨fun N z => ⟨(fun k h => by cases h), k23, f2, comp, f3⟩, k23, comp, f2, f3, f1, f4⟩
  · obtain ⟨h1, h2⟩ := List.mem_filter.mp hw
    refine va_Nw.of ?_ (hts w h1)
    unfold pz_wn at h2
    split at h2
    · rfl
    · rfl
    · rfl
    · cases h2
  · have h1 := List.all_eq_true.mp pz_nck_ok x (List.mem_of_getElem? ha)
    have h2 := List.all_eq_true.mp h1 y (List.mem_of_getElem? hb)
    simp only [Bool.or_eq_true, decide_eq_true_eq] at h2
    rcases h2 with rfl | h2
    · exact absurd (pz_xn_ne a b x ha hb) hne
    · exact va_Nc.of (hfl _ h2)
end PZS
/-- the heap at the law's entry: the script alone -/
def pz_h0 (L : Nat) (xs : Nat → Int32) : pz_H := ((0, fun _ => 20, fun r => if r = 1 then L else 0, fun _ _ => 0), fun r j => if r = 1 then (xs j).toInt else 0, fun _ _ => 0, 0, 0)
theorem pz_h0_ok {L : Nat} {xs : Nat → Int32} (hL : L ≤ 2560) : pz_hk L xs (pz_h0 L xs) := by
  refine ⟨fun r j => ?_, fun r j => ?_, show (if (1 : Nat) = 1 then L else 0) = L from if_pos rfl, fun j _ => show (if (1 : Nat) = 1 then (xs j).toInt else 0) = (xs j).toInt from if_pos rfl, fun r => ?_⟩
  · show pz_i (if r = 1 then (xs j).toInt else 0)
    split
    · exact pz_i32 _
    · exact ⟨by omega, by omega⟩
  · show 0 < 0 + 2
    omega
  · show (if r = 1 then L else 0) ≤ 65536
    split <;> omega
/-- the law answers true on every script of at most N ints, in the room of the claim -/
def pz_good (N C S : Nat) : Prop := ∀ (L : Nat) (xs : Nat → Int32), L ≤ N → ∃ (n : Nat) (h : pz_H), pz_run n 231 0 (pz_en 231 [.inr (.inl 1)]) [] (pz_h0 L xs) = some (.inl (some (.inl 1)), h) ∧ h.2.2.2.1 ≤ C ∧ h.2.2.2.2 ≤ S
theorem pz_law : pz_yy 231 = x ∧ pz_bs 231 = code ∧ pz_ml 231 = 11 ∧ pz_rt 231 = ret ∧ pz_hh 231 = [] ∧ pz_fr 231 ≤ room_1.frames ∧ pz_lo 231 ≤ room_1.locals := by
  refine ⟨rfl, rfl, rfl, rfl, rfl, ?_, ?_⟩ <;> decide +kernel
/-! THE CLAIM OUT OF ONE WALK OF THE LAW'S BODY (after the skeleton, with what the entry knows besides) -/
def R_law : String := "SimplespanLaw"
def lw_P (b : Addr) (xs : List Int32) (args : Array Value) (s : State) : Prop := args = #[.ref b] ∧ s.IntsAt b xs ∧ xs.length ≤ 260 ∧ (Jvm.Cond.and given_1 narrow_1).before args s = true
def lw_Q (_ : Array Value) (s : State) (o : Outcome) (t : State) : Prop := o = .returned (some (.int 1)) ∧ Framed s o t [] 1282598 5245304
def lw_Z (below : List Frame) (a : Array Value) (s : State) : State → Prop := fun t => ∃ o, t.status = .running ∧ Ended t below o ∧ lw_Q a s o t
/-- what holds at the law's entry -/
def lw_At (p : Program) (s : State) (m : MethodId) (meth : Method) (c : Code) (b L : Nat) (xs : Nat → Int32) : Prop :=
  p.tables.exec = Jvm.exec ∧ c.code = code ∧ meth.sig.returnType = ret ∧ c.maxLocals = 11 ∧ s.vm.findClass R_law = some m.cls ∧ (∀ w ∈ lw_tbl, w.before #[Value.ref b] s = true) ∧ va_X b L xs s s.heap ∧ b < s.heap.size ∧ meth.locks = false ∧ (Jvm.Cond.and given_1 narrow_1).before #[Value.ref b] s = true ∧ (∀ z ∈ c.exceptionTable.toList, False)
theorem lw_end {p : Program} {l : Launch} {e : Env} {s : State} {m : MethodId} {below : List Frame} {meth : Method} {c : Code} {a : Array Value} {D : va_G} {dA : Nat → ClassId} {ad : Nat → Nat} {h h' : pz_H} {mc ms Z : Nat} {g : JFrame} (hZ : s.heap.size ≤ Z) (hc : mc ≤ 1282598) (hs : ms ≤ 5245304)
    (k : W p l e room_1 s m a below meth c s.heap [] 0 0 (vx_MQ below (pz_Qc Z D dA ad h (.inl (some (.inl 1))) h') (pz_XC Z D dA ad h (.inl (some (.inl 1))) h') a s mc ms (fun q => Z ≤ q)) g) : W p l e room_1 s m a below meth c s.heap [] 0 0 (lw_Z below a s) g := by
  intro T hT X
  obtain ⟨t, a1, o, b1, b2, hq⟩ := k T hT X
  refine ⟨t, a1, o, b1, b2, ?_⟩
  rcases hq with ⟨⟨v, ad', r1, -, r3, -⟩, Ls, hFE, hfree⟩ | ⟨q, -, E, ce, Ls, ⟨k9, ad', hk9, -⟩, -⟩
  · cases r1
    obtain ⟨f1, f2, f3⟩ := hFE
    refine ⟨r3, ⟨_, r3⟩, f2, ?_⟩
    have f4 : s.sameButNew ({ t with vm := s.vm } : State) ([] ++ Ls) mc ms := f3
    exact (State.sameButNew.drop_fresh f4 (fun z hz => Nat.le_trans hZ (hfree z hz))).mono hc hs
  · cases hk9
theorem whole_start (hgood : pz_good 260 1282598 5245304) {p : Program} {e : Env} {s : State} {m : MethodId} {below : List Frame} {meth : Method} {c : Code} (l : Launch) (hflags : l.flags = flags0) {b L : Nat} {xs : Nat → Int32} (hL : L ≤ 260) (C0 : lw_At p s m meth c b L xs) : W p l e room_1 s m #[Value.ref b] below meth c s.heap [] 0 0 (lw_Z below #[Value.ref b] s) (entryFrame m ([Value.ref b] : List Value).toArray 11) := by
  obtain ⟨hx, hb, hret, hml, hown, hts, hX, hbl, hlk, hgv, htab⟩ := C0
  obtain ⟨n, h, hrun, hc, hs⟩ := hgood L xs hL
  obtain ⟨D, dA, sa, hE⟩ := pz_En_at hts hgv
  have htr : l.stackTraces = false := by
    unfold Launch.stackTraces
    rw [hflags]
    decide +kernel
  obtain ⟨e1, e2, e3, e4, e5, e6, e7⟩ := pz_law
  have hfl := flat_of_before _ hgv
  have hSt : pz_St s.heap.size L xs b s := ⟨Nat.le_refl _, hX, hbl, vx_Zqof (hts _ pz_thr.1) (hts _ pz_thr.2.2.1) (hfl _ pz_isr.1) (fun a ha => Nat.not_le.mpr ha), vx_Zqof (hts _ pz_thr.2.1) (hts _ pz_thr.2.2.1) (hfl _ pz_isr.2) (fun a ha => Nat.not_le.mpr ha)⟩
  have hq := pz_h0_ok (L := L) (xs := xs) (Nat.le_trans hL (by decide))
  have hCx : pz_Cx p l room_1 s m #[Value.ref b] meth c 231 s.heap.size L xs D dA sa (fun _ => b) := by
    refine ⟨hx, by rw [hb, e2], by rw [hml, e3], fun w hw => hts w (List.mem_filter.mp hw).1, by rw [e1]; exact hown, ?_, by rw [hret, e4], hlk, e6, e7, htr, ?_, hE, hSt⟩
    · intro h9
      rw [e1] at h9
      exact absurd h9 (by decide +kernel)
    · rw [e5]
      exact List.eq_nil_iff_forall_not_mem.mpr (fun z hz => htab z hz)
  have hlo : ∀ v ∈ ([.inr (.inl 1)] : List pz_V), pz_o (pz_h0 L xs).1.1 v := by
    intro v hv
    rw [List.mem_singleton] at hv
    subst hv
    show 1 < 0 + 2
    omega
  have hle := (pz_run_ok (Nat.le_trans hL (by decide)) n 231 0 _ _ _ _ _ hrun hq (fun u hu => hlo u (pz_en_in hu)) (fun v hv => by cases hv)).2.1
  have hw0 : pz_ws (fun _ => b) dA (pz_h0 L xs) = [] := rfl
  have hP0 : va_P D pz_cls (pz_ws (fun _ => b) dA (pz_h0 L xs)) s.heap := by
    rw [hw0]
    intro k q hq
    cases hq
  have hD0 : va_D (fun q => s.heap.size ≤ q) (pz_ws (fun _ => b) dA (pz_h0 L xs)) := by
    rw [hw0]
    exact ⟨fun i j p q hp => (by cases hp), fun k q hq => (by cases hq)⟩
  have hP : pz_Pc s.heap.size L xs D dA sa (fun _ => b) [.inr (.inl 1)] (pz_h0 L xs) #[Value.ref b] s := ⟨rfl, hE, hSt, hP0, hD0⟩
  refine lw_end (h := pz_h0 L xs) (h' := h) (Nat.le_refl _) (mc := h.2.2.2.1 - (pz_h0 L xs).2.2.2.1) (ms := h.2.2.2.2 - (pz_h0 L xs).2.2.2.2) (Nat.le_trans (Nat.sub_le _ _) hc) (Nat.le_trans (Nat.sub_le _ _) hs) ?_ (D := D) (dA := dA) (ad := fun _ => b)
  have hbody := pz_body (pz_all (Nat.le_trans hL (by decide)) htr n) hrun hle hq hlo (fun v hv => by rw [List.mem_singleton] at hv; subst hv; rfl) (by rw [e3]; decide) hCx hP (Nat.le_trans (Nat.sub_le _ _) hc) (Nat.le_trans (Nat.sub_le _ _) hs) (e := e) (below := below)
  rw [e3] at hbody
  exact hbody
set_option maxHeartbeats 4000000 in
theorem lw_walk (hgood : pz_good 260 1282598 5245304) (l : Launch) (hflags : l.flags = flags0) (b : Addr) (xs : List Int32) : MetFree l x (headSpec (Jvm.Cond.code x code maxLocals ret :: tables_1) room_1) (lw_P b xs) (fun _ _ _ _ _ => True) lw_Q := by
  refine MetFree.of_bodyS (code := code) (maxLocals := maxLocals) (ret := ret) (by decide) ?_ ?_
  · intro args s m h hn
    obtain ⟨meth, c, h1, h2, h3, h4, h5, h6, -, -⟩ := Cond.code_spec hn (atoms_spec (ws := Jvm.Cond.code x code maxLocals ret :: tables_1) h _ List.mem_cons_self)
    exact ⟨meth, c, h1, h2, h3, h4, h5, h6⟩
  · intro p e s m args below meth c s₁ B hml0 hP _
    obtain ⟨rfl, hx, hbd, hgv⟩ := hP
    obtain ⟨scr, harrAt, hlist, hof, hsmall⟩ := hx
    obtain ⟨hcb, hkn, -, -⟩ := State.arrayAt?_spec harrAt
    have hown : s.vm.findClass R_law = some m.cls := findClass_of_methodNamed B.named
    have hts0 : ∀ c ∈ (Jvm.Cond.code x code maxLocals ret :: tables_1), c.before #[Value.ref b] s = true := atoms_spec (ws := Jvm.Cond.code x code maxLocals ret :: tables_1) B.pre
    have hts : ∀ w ∈ lw_tbl, w.before #[Value.ref b] s = true := k2_hts_sels lw_privs (fun w hw => hts0 w (List.mem_cons_of_mem _ hw)) lw_privs_ok
    have hml : c.maxLocals = 11 := B.maxLocals_eq (hts0 _ List.mem_cons_self)
    have X₀ : Stand p l e room_1 s m #[Value.ref b] below meth c s₁ [] 0 0 := Stand.of_body B
    have hh0 : s₁.heap = s.heap := by rw [B.state]; rfl
    have htab : ∀ z ∈ c.exceptionTable.toList, False := by
      obtain ⟨meth9, c9, h1, h2, -, -, -, -, h7, -⟩ := Cond.code_spec B.named (hts0 _ List.mem_cons_self)
      cases Option.some.inj (h1.symm.trans B.method)
      cases Option.some.inj (h2.symm.trans (Stand.of_body B).code)
      intro z hz
      rw [Array.isEmpty_iff.mp h7] at hz
      cases hz
    have hsz : scr.slots.size = xs.length := by rw [← Array.length_toList, hlist, List.length_map]
    have hval : ∀ j : Nat, j < xs.length → scr.slots[j]? = some (.int (xs.getD j 0)) := fun j hj => by
      rw [← Array.getElem?_toList, hlist]
      simp [hj]
    have hbl : b < s.heap.size := (Array.getElem?_eq_some_iff.mp hcb).1
    have hX : va_X b xs.length (fun j => xs.getD j 0) s s.heap := ⟨scr, hcb, hof, hkn, hsz, hval⟩
    have K : W p l e room_1 s m #[Value.ref b] below meth c s₁.heap [] 0 0 (lw_Z below #[Value.ref b] s) (entryFrame m ([Value.ref b] : List Value).toArray 11) := by
      rw [hh0]
      exact whole_start hgood l hflags hbd ⟨B.exec, B.bytes, B.returns, hml, hown, hts, hX, hbl, B.notSynchronized, hgv, htab⟩
    obtain ⟨t, a1, o, b1, b2, b3⟩ := K s₁ rfl X₀
    exact ⟨t, o, a1, b1, b2, b3⟩
theorem lw_pre_spec {args : Array Value} {s : State} (h : (Jvm.Cond.and given_1 narrow_1).before args s = true) (hr : rest_1_c.before args s = true) : ∃ (b : Addr) (xs : List Int32), lw_P b xs args s := by
  have hs := flat_of_before _ h
  have hq := flat_of_before _ hr
  have hc : (Cond.count 1).before args s = true := hs _ (by decide +kernel)
  have harr : (Cond.arrayOf (.arg 0) .int).before args s = true := hs _ (by decide +kernel)
  have hle : (Cond.le (.length (.arg 0)) (.int 260)).before args s = true := hs _ (by decide +kernel)
  have hlen : (Cond.isInt (.length (.arg 0))).before args s = true := hq _ (by decide +kernel)
  have hall : (Cond.all (.arg 0) (.isInt (.elem (.arg 0) (.index 0)))).before args s = true := hq _ (by decide +kernel)
  obtain ⟨b, xs, hb, hx⟩ := State.ints_of_pre rfl harr hlen hall
  have hsm : xs.length < 2 ^ 31 := hx.choose_spec.2.2.2
  have hev : (Term.length (.arg 0)).eval args s none [] s = some (.int xs.length.toInt32) := hx.length_eval hb
  have hv := Cond.le_ints hev (show (Term.int 260).eval args s none [] s = some (.int 260) from rfl)
  have hd : xs.length.toInt32 ≤ 260 := by
    simpa [Cond.before, Cond.holds, hv] using hle
  have hN : xs.length ≤ 260 := (Int32.ofNat_le_ofNat hsm (by decide)).mp (show Int32.ofNat xs.length ≤ Int32.ofNat 260 from hd)
  exact ⟨b, xs, Cond.one_arg hc (show args[0]? = some (.ref b) from hb), hx, hN, h⟩
theorem lw_comes (hgood : pz_good 260 1282598 5245304) (l : Launch) (hflags : l.flags = flags0) : Comes l x (Jvm.Cond.code x code maxLocals ret :: tables_1) room_1 (fun tb e args s => Calls_1 tb e args s ∧ rest_1 tb e args s ∧ Pre_1 tb e args s)
    (fun _ _ args s o t => lw_Q args s o t) := by
  intro p e ha hc hk s m args below hf hfit hheap happ hpre
  obtain ⟨b, xs, hP⟩ := lw_pre_spec hpre.2.2 hpre.2.1
  obtain ⟨k, o, h1, h2, h3, hQ⟩ := lw_walk hgood l hflags b xs p e ha hc hk s m args below hf ((Spec.applies_iff_loose hf).mp happ).1 hP trivial
  exact ⟨k, o, h1, h2, h3, hQ⟩
theorem lw_frame {s t : State} {o : Outcome} {args : Array Value} (h : Framed s o t [] 1282598 5245304) :
    Framed s o t (fieldLocs frame_1_writes args s ++ arrayLocs frame_1_arrays args s ++ staticLocs frame_1_statics s) 1282598 5245304 := h
theorem lw_limb (hgood : pz_good 260 1282598 5245304) (L : Cond) (hL : ∀ (args : Array Value) (s t : State), L.after args s (.returned (some (.int 1))) t = true) :
    ArmFor flags0 classFile x code maxLocals ret World_1 tables_1 room_1 Calls_1 rest_1 Pre_1
      (fun tb e a s o t => postC L tb e a s o t ∧ Framed s o t (fieldLocs frame_1_writes a s ++ arrayLocs frame_1_arrays a s ++ staticLocs frame_1_statics s) 1282598 5245304) := by
  intro l hflags _ _ p e ha hc hk s m args below hf hfit hheap happ hpre
  obtain ⟨k, o, h1, h2, h3, rfl, hF⟩ := lw_comes hgood l hflags p e ha hc hk s m args below hf hfit hheap happ hpre
  exact ⟨k, _, h1, h2, h3, hL args s _, lw_frame hF⟩
