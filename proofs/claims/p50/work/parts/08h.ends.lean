/-! answers, throws, handlers -/
def pz_xt : List (Nat × Nat × Nat × Nat × Nat × Nat × Nat) := [(56, 494, 27, 60, 496, 20, 489), (359, 605, 29, 363, 607, 29, 574), (354, 586, 28, 358, 588, 27, 573), (140, 724, 32, 144, 726, 47, 696), (191, 1116, 34, 195, 1118, 73, 1088)]
/-- where the constructor of the class links the one above, and its bytes -/
def pz_x1 (E : Nat) : Nat × ByteArray := if E = 2 then (13, prog_27_method_4_code) else (7, Bundle.six)
def pz_oE (E : Nat) (ic : Nat) (X : String) : List Cond := (pz_oA "Simplespan" ic X "java/lang/RuntimeException" ["java/lang/Exception"] (pz_x1 E).1 (pz_x1 E).2).filter vx_no
def pz_xk (E : Nat) : Bool := match pz_xn[E]?, pz_xt[E]? with
  | some X, some q => decide (lw_tbl[q.2.1]? = some (.classLink "Simplespan" q.1 X)) && (decide (lw_tbl[q.2.2.1]? = some (.initialized X)) && (Bundle.fit X && (decide (lw_tbl[q.2.2.2.2.1]? = some (.castable X X)) && (decide (lw_tbl[q.2.2.2.2.2.2]? = some (.classLink "SimplespanLaw" q.2.2.2.2.2.1 X)) &&
    ((pz_oE E q.2.2.2.1 X).all (fun w => decide (w ∈ lw_tbl) && ((goodWord w || pz_wn w) && vx_ot w)) && decide (q.2.2.2.2.2.1 ≠ 0))))))
  | _, _ => false
theorem pz_x1_at (E : Nat) : decode (pz_x1 E).2 0 = .ok (.aload_n 0, 1) ∧ decode (pz_x1 E).2 1 = .ok (.aload_n 1, 1) ∧ decode (pz_x1 E).2 2 = .ok (.invokespecial (pz_x1 E).1, 3) ∧ decode (pz_x1 E).2 5 = .ok (.return_, 1) := by
  unfold pz_x1
  split <;> decide +kernel
theorem pz_xk0 : pz_xk 0 = true := by decide +kernel
theorem pz_xk1 : pz_xk 1 = true := by decide +kernel
theorem pz_xk2 : pz_xk 2 = true := by decide +kernel
theorem pz_xk3 : pz_xk 3 = true := by decide +kernel
theorem pz_xk4 : pz_xk 4 = true := by decide +kernel
theorem pz_xk_ok {E : Nat} (h : E < 5) : pz_xk E = true := by
  have h1 : E = 0 ∨ E = 1 ∨ E = 2 ∨ E = 3 ∨ E = 4 := by omega
  rcases h1 with rfl | rfl | rfl | rfl | rfl
  · exact pz_xk0
  · exact pz_xk1
  · exact pz_xk2
  · exact pz_xk3
  · exact pz_xk4
theorem pz_xk_at {E : Nat} (h : E < 5) : ∃ X q, pz_xn[E]? = some X ∧ pz_xt[E]? = some q ∧ Cond.classLink "Simplespan" q.1 X ∈ pz_gd ∧ Cond.initialized X ∈ pz_gd ∧ Bundle.fit X = true ∧ Cond.castable X X ∈ pz_bd ∧ Cond.classLink "SimplespanLaw" q.2.2.2.2.2.1 X ∈ pz_gd ∧
    (∀ w ∈ pz_oE E q.2.2.2.1 X, w ∈ lw_tbl ∧ (goodWord w = true ∨ pz_wn w = true) ∧ vx_ot w = true) ∧ q.2.2.2.2.2.1 ≠ 0 := by
  have h1 := pz_xk_ok h
  unfold pz_xk at h1
  split at h1
  · rename_i X q hX hq
    simp only [Bool.and_eq_true, decide_eq_true_eq] at h1
    obtain ⟨a1, a2, a3, a4, a5, a6, a7⟩ := h1
    refine ⟨X, q, hX, hq, pz_gd_in a1 rfl, pz_gd_in a2 rfl, a3, pz_bd_in _ a4 rfl, pz_gd_in a5 rfl, fun w hw => ?_, a7⟩
    have h2 := List.all_eq_true.mp a6 w hw
    simp only [Bool.and_eq_true, decide_eq_true_eq, Bool.or_eq_true] at h2
    exact h2
  · cases h1
def pz_tlk : Bool := pz_tl.all (fun x => decide (x.1 = "Simplespan" ∧ x.2.2.2.2.1 < 5) && (match pz_xt[x.2.2.2.2.1]? with
  | some q => decide (q.1 = x.2.1 ∧ q.2.2.2.1 = x.2.2.2.1)
  | none => false))
theorem pz_tlk_ok : pz_tlk = true := by decide +kernel
theorem pz_tl_at {o : String} {ik is ic E wd k : Nat} {tx : String} (h : pz_tl[k]? = some (o, ik, is, ic, E, wd, tx)) : o = "Simplespan" ∧ E < 5 ∧ ∃ q, pz_xt[E]? = some q ∧ q.1 = ik ∧ q.2.2.2.1 = ic := by
  have h1 := List.all_eq_true.mp pz_tlk_ok _ (List.mem_of_getElem? h)
  dsimp only at h1
  simp only [Bool.and_eq_true, decide_eq_true_eq] at h1
  obtain ⟨⟨h2, h3⟩, h4⟩ := h1
  refine ⟨h2, h3, ?_⟩
  split at h4
  · rename_i q hq
    exact ⟨q, hq, of_decide_eq_true h4⟩
  · cases h4
theorem pz_rc_at {t : Option FieldType} {a : Nat} (h : a = pz_rc t) : (a = 0 → t = some .int) ∧ (a = 1 → t = some .boolean) ∧ (a = 2 → t = some .char) ∧ (a = 3 → t = some .long) ∧ (a = 4 → t = some .float) ∧ (a = 5 → t = some .double) ∧ (a = 9 → ∃ n, t = some (.object n)) := by
  subst h
  cases t with
  | none => refine ⟨?_, ?_, ?_, ?_, ?_, ?_, ?_⟩ <;> intro h <;> exact absurd h (by decide)
  | some ty => cases ty <;> refine ⟨?_, ?_, ?_, ?_, ?_, ?_, ?_⟩ <;> intro h <;> first | rfl | exact ⟨_, rfl⟩ | exact absurd h (by simp [pz_rc])
section PZT
variable {p : Program} {l : Launch} {e : Env} {R : Room} {s : State} {mI : MethodId} {args : Array Value} {below : List Frame} {meth : Method} {c : Code} {H : Heap} {locs : List Loc} {cells slots : Nat} {Q : State → Prop}
variable {pc : Nat} {mls : Array Slot} {m Z L : Nat} {xs : Nat → Int32} {D : va_G} {dA : Nat → ClassId} {sa ad0 ad : Nat → Nat} {h0 h : pz_H} {ls : pz_L} {st : List pz_V}
theorem pz_W10 {len a b c' e' : Nat} {ins : Instr} {v : pz_V} (hC : pz_Cx p l R s mI args meth c m Z L xs D dA sa ad0) (hT : pz_Pt s m Z L xs D dA ad0 ad h0 h ls mls H locs cells slots)
    (hck : pz_ck1 m 10 ins len a b c' e' pc = true) (hd : decode (pz_bs m) pc = .ok (ins, len)) (hrok : pz_rok a v = true) :
    W p l e R s mI args below meth c H locs cells slots (vx_MQ below (pz_Qc Z D dA ad0 h0 (.inl (some v)) h) (pz_XC Z D dA ad0 h0 (.inl (some v)) h) args s cells slots (fun q => Z ≤ q)) (F0 mI pc mls [pz_e ad v]) := by
  obtain ⟨hx, hbc, hml, hts, hown, hname, hret, hlk, hRf, hRl, htr, htab, hE, hSt⟩ := hC
  obtain ⟨hlv, hP, hD, hS, had, hn0, hcs, hss, hk, hlo⟩ := hT
  simp only [pz_ck1, Bool.and_eq_true, beq_iff_eq] at hck
  obtain ⟨rfl, hrk, hrc⟩ := hck
  obtain ⟨c0, c1, c2, c3, c4, c5, c9⟩ := pz_rc_at hrc
  refine vx_ret ?_
  have hq : ∀ t : State, t.heap = H → s.WarmedH t.vm → pz_Qc Z D dA ad0 h0 (.inl (some v)) h args s (.returned (some (pz_e ad v))) t := fun t ht hW => ⟨some v, ad, rfl, had, rfl, by rw [ht]; exact hP, hD, hS.F ht⟩
  unfold pz_rk at hrk
  split at hrk
  · have ha := of_decide_eq_true hrk
    rcases v with x | x | x | x | x
    · have h3 : a = 0 ∨ a = 1 ∨ a = 2 := by omega
      rcases h3 with rfl | rfl | rfl
      · exact W.iret hx hbc (hret.trans (c0 rfl)) hq hS.2.2 hd hlk
      · refine W.zret hx hbc (hret.trans (c1 rfl)) ?_ hq hS.2.2 hd hlk
        simp [pz_rok] at hrok
        rcases hrok with rfl | rfl <;> rfl
      · refine W.zret hx hbc (hret.trans (c2 rfl)) ?_ hq hS.2.2 hd hlk
        simp [pz_rok] at hrok
        have h9 := pz_nar_c hrok
        have e9 : narrow .char (.int (Int32.ofInt x)) = .int (vp_nar .char (Int32.ofInt x)) := rfl
        rw [e9, h9]
    · simp [pz_rok] at hrok; omega
    · simp [pz_rok] at hrok; omega
    · simp [pz_rok] at hrok; omega
    · simp [pz_rok] at hrok; omega
  · have ha := eq_of_beq hrk
    subst ha
    rcases v with x | x | x | x | x <;> simp [pz_rok] at hrok
    exact W.lret hx hbc (hret.trans (c3 rfl)) hq hS.2.2 hd hlk
  · have ha := eq_of_beq hrk
    subst ha
    rcases v with x | x | x | x | x <;> simp [pz_rok] at hrok
    exact W.fret hx hbc (hret.trans (c4 rfl)) hq hS.2.2 hd hlk
  · have ha := eq_of_beq hrk
    subst ha
    rcases v with x | x | x | x | x <;> simp [pz_rok] at hrok
    exact W.dret hx hbc (hret.trans (c5 rfl)) hq hS.2.2 hd hlk
  · have ha := eq_of_beq hrk
    subst ha
    rcases v with x | x | x | x | x <;> simp [pz_rok] at hrok
    obtain ⟨n, hn⟩ := c9 rfl
    refine W.aret hx hbc (hret.trans hn) (Or.inl ⟨n, rfl⟩) ?_ hq hS.2.2 hd hlk
    show (if x = 0 then Value.null else .ref (ad x)) = .null ∨ ∃ a, (if x = 0 then Value.null else .ref (ad x)) = .ref a
    split
    · exact Or.inl rfl
    · exact Or.inr ⟨_, rfl⟩
  · cases hrk
theorem pz_W11 {len a b c' e' : Nat} {ins : Instr} (hC : pz_Cx p l R s mI args meth c m Z L xs D dA sa ad0) (hT : pz_Pt s m Z L xs D dA ad0 ad h0 h ls mls H locs cells slots)
    (hck : pz_ck1 m 11 ins len a b c' e' pc = true) (hd : decode (pz_bs m) pc = .ok (ins, len)) :
    W p l e R s mI args below meth c H locs cells slots (vx_MQ below (pz_Qc Z D dA ad0 h0 (.inl none) h) (pz_XC Z D dA ad0 h0 (.inl none) h) args s cells slots (fun q => Z ≤ q)) (F0 mI pc mls []) := by
  obtain ⟨hx, hbc, hml, hts, hown, hname, hret, hlk, hRf, hRl, htr, htab, hE, hSt⟩ := hC
  obtain ⟨hlv, hP, hD, hS, had, hn0, hcs, hss, hk, hlo⟩ := hT
  simp only [pz_ck1, Bool.and_eq_true, beq_iff_eq, decide_eq_true_eq] at hck
  obtain ⟨rfl, rfl, hrt⟩ := hck
  refine vx_ret ?_
  exact W.vret hx hbc (hret.trans hrt) (fun t ht hW => ⟨none, ad, rfl, had, rfl, by rw [ht]; exact hP, hD, hS.F ht⟩) hS.2.2 hd hlk
theorem pz_ws_lt {ad : Nat → Nat} {dA : Nat → ClassId} {h : pz_H} {D : va_G} {H H1 : Heap} (hP : va_P D pz_cls (pz_ws ad dA h) H) (hq : ∀ q : Nat, q < H.size → H1[q]? = H[q]?) : va_P D pz_cls (pz_ws ad dA h) H1 := hP.kept (fun k q hk => hq q.1 ((hP k q hk).lt))
theorem pz_W7 {len a b c' e' : Nat} {ins : Instr} (hC : pz_Cx p l R s mI args meth c m Z L xs D dA sa ad0) (hT : pz_Pt s m Z L xs D dA ad0 ad h0 h ls mls H locs cells slots)
    (hck : pz_ck1 m 7 ins len a b c' e' pc = true) (hd : decode (pz_bs m) pc = .ok (ins, len)) (hst : st.length ≤ 4) (hRc : cells + 1 ≤ R.cells) (hRs : slots + 6 ≤ R.slots) :
    W p l e R s mI args below meth c H locs cells slots (vx_MQ below (pz_Qc Z D dA ad0 h0 (.inr a) (h.1, h.2.1, h.2.2.1, h.2.2.2.1 + 1, h.2.2.2.2 + 6)) (pz_XC Z D dA ad0 h0 (.inr a) (h.1, h.2.1, h.2.2.1, h.2.2.2.1 + 1, h.2.2.2.2 + 6)) args s (cells + 1) (slots + 6) (fun q => Z ≤ q)) (F0 mI pc mls (st.map (pz_e ad))) := by
  obtain ⟨hx, hbc, hml, hts, hown, hname, hret, hlk, hRf, hRl, htr, htab, hE, hSt⟩ := hC
  obtain ⟨hlv, hP, hD, hS, had, hn0, hcs, hss, hk, hlo⟩ := hT
  simp only [pz_ck1] at hck
  split at hck
  · rename_i o ik is ic E wd tx he
    simp only [Bool.and_eq_true, beq_iff_eq, decide_eq_true_eq] at hck
    obtain ⟨rfl, rfl, rfl, rfl, ⟨hf1, hf2⟩, hhe, d3, hck⟩ := hck
    obtain ⟨ho, hE6, q, hq, rfl, rfl⟩ := pz_tl_at he
    obtain ⟨X, q', hX, hq', w1, w2, hfit, -, -, hat, -⟩ := pz_xk_at hE6
    cases hq.symm.trans hq'
    have hstr := hE.2.2.2.1 _ _ _ _ _ _ _ _ he
    have hat' : ∀ w ∈ pz_oE E q.2.2.2.1 X, w.before args s = true := by
      intro w hw
      obtain ⟨b1, b2, -⟩ := hat w hw
      rcases b2 with b2 | b2
      · exact hts w (List.mem_filter.mpr ⟨b1, b2⟩)
      · refine va_Nw.use ?_ (hE.2.2.1 w (List.mem_filter.mpr ⟨b1, b2⟩))
        unfold pz_wn at b2
        split at b2
        · rfl
        · rfl
        · rfl
        · cases b2
    have hgood : ∀ w ∈ Cond.classLink "Simplespan" q.1 X :: Cond.initialized X :: pz_oE E q.2.2.2.1 X, vx_ot w = true := by
      intro w hw
      rcases List.mem_cons.mp hw with rfl | hw
      · rfl
      · rcases List.mem_cons.mp hw with rfl | hw
        · rfl
        · exact (hat w hw).2.2
    have hout : ∀ (z : ExceptionTableEntry) (n : Nat), z ∈ c.exceptionTable.toList → covers z n = false := by
      intro z n hz
      rw [htab, List.isEmpty_iff.mp hhe] at hz
      cases hz
    have hn3 : ["java/lang/Exception"].length + 1 + 3 < R.frames := Nat.lt_of_lt_of_le (show 2 + 3 < 6 by omega) (Nat.le_trans hf1 hRf)
    have hr3 : ((st.map (pz_e ad)).map fun v => v.category).sum + (13 * (["java/lang/Exception"].length + 1 + 1) + 43) ≤ R.locals := by
      have z1 := pz_cat_sum ad st
      show _ + (13 * 3 + 43) ≤ _
      omega
    have hxx : ∀ t : State, s.vm.Alike t.vm → H.size ≤ t.heap.size → (∀ q : Nat, q < H.size → t.heap[q]? = H[q]?) → pz_XC Z D dA ad0 h0 (.inr E) (h.1, h.2.1, h.2.2.1, h.2.2.2.1 + 1, h.2.2.2.2 + 6) X s t := by
      intro t hvm hz hh
      refine ⟨E, ad, rfl, hX, had, pz_ws_lt hP hh, hD, Nat.le_trans hS.1 hz, fun q h1 h2 => ?_⟩
      rw [hh q (Nat.lt_of_lt_of_le h1 hS.1)]
      exact hS.2.1 q h1 h2
    obtain ⟨-, -, -, hU, hN⟩ := hSt
    have hsz : mls.size = c.maxLocals := hlv.2.1.trans hml.symm
    have w1' : (Cond.classLink "Simplespan" q.1 X).before args s = true := hts _ w1
    have hstr' : vk_R "Simplespan" is tx (sa e') s := by rw [← ho]; exact hstr
    obtain ⟨y0, y1, y2, y5⟩ := pz_x1_at E
    split at hck
    · simp only [Bool.and_eq_true, decide_eq_true_eq] at hck
      exact pz_throwX (n4 := 2) hx hbc htr (own := "Simplespan") (by rw [← ho]; exact hown) hfit (by decide +kernel) (by decide +kernel) y0 y1 y2 y5 w1' (hts _ w2) hstr' hat' hgood hU hN hS hsz hd d3 (Or.inl ⟨rfl, hck.1⟩) hck.2.1 hck.2.2 (fun z hz => hout z _ hz) hn3 hr3 hRc hRs hlk hxx hS.2.2 (Nat.le_refl _) (Nat.le_refl _)
    · simp only [Bool.and_eq_true, decide_eq_true_eq] at hck
      exact pz_throwX (n4 := 3) hx hbc htr (own := "Simplespan") (by rw [← ho]; exact hown) hfit (by decide +kernel) (by decide +kernel) y0 y1 y2 y5 w1' (hts _ w2) hstr' hat' hgood hU hN hS hsz hd d3 (Or.inr ⟨rfl, hck.1⟩) hck.2.1 hck.2.2 (fun z hz => hout z _ hz) hn3 hr3 hRc hRs hlk hxx hS.2.2 (Nat.le_refl _) (Nat.le_refl _)
  · cases hck
end PZT
