/-! the machine follows the evaluator: fields and rows -/
theorem pz_ce_obj {ad : Nat → Nat} {dA : Nat → ClassId} {h : pz_H} {r a : Nat} (hk : h.1.2.1 r = a) (ha : a < 11) : pz_ce ad dA h r = .inr (a, (List.range (pz_nf a)).map (pz_fv ad h a r)) := by
  unfold pz_ce
  rw [hk, if_pos ha]
theorem pz_ce_int {ad : Nat → Nat} {dA : Nat → ClassId} {h : pz_H} {r a : Nat} (hk : h.1.2.1 r = a) (ha : 20 ≤ a ∧ a ≤ 22) : pz_ce ad dA h r = .inl (dA a, h.1.2.2.1 r, .inl (fun j => Int32.ofInt (h.2.1 r j))) := by
  unfold pz_ce
  rw [hk, if_neg (by omega), if_neg (by omega)]
theorem pz_ce_ref {ad : Nat → Nat} {dA : Nat → ClassId} {h : pz_H} {r : Nat} (hk : h.1.2.1 r = 23) : pz_ce ad dA h r = .inl (dA 23, h.1.2.2.1 r, .inr (.inr (.inr (.inr (fun j => pz_rr ad (h.1.2.2.2 r j)))))) := by
  unfold pz_ce
  rw [hk, if_neg (by omega), if_pos rfl]
theorem pz_vpin {i : Int} {n : Nat} (hi : pz_i i) (h0 : 0 ≤ i) (h1 : i < (n : Int)) : vp_in (Int32.ofInt i) n := by
  have e : (Int32.ofInt i).toNatClampNeg = i.toNat := Int32.toNatClampNeg_ofInt_of_le (by have := hi.1; omega) (by have := hi.2; omega)
  rintro (q | q)
  · rw [show (0 : Int32) = Int32.ofInt 0 from rfl, pz_ilt hi ⟨by omega, by omega⟩] at q
    omega
  · rw [e] at q
    omega
theorem pz_tnc {i : Int} (hi : pz_i i) : (Int32.ofInt i).toNatClampNeg = i.toNat := Int32.toNatClampNeg_ofInt_of_le (by have := hi.1; omega) (by have := hi.2; omega)
theorem pz_tys_at (dA : Nat → ClassId) : (pz_tys dA)[0]? = some (dA 20, .int) ∧ (pz_tys dA)[1]? = some (dA 21, .boolean) ∧ (pz_tys dA)[2]? = some (dA 22, .char) ∧ (pz_tys dA)[3]? = some (dA 23, .object "Simplespan$Plan") := ⟨rfl, rfl, rfl, rfl⟩
theorem pz_e_ref {ad : Nat → Nat} {r : Nat} (h : 2 ≤ r) : pz_e ad (.inr (.inl r)) = .ref (ad r) := by
  show (if r = 0 then Value.null else .ref (ad r)) = _
  rw [if_neg (by omega)]
/-- a number is written in a cell -/
theorem pz_ce_iv {ad : Nat → Nat} {dA : Nat → ClassId} {h : pz_H} {r k : Nat} {x : Int} {r' : Nat} (hne : r' ≠ r) : pz_ce ad dA (h.1, pz_u2 h.2.1 r k x, h.2.2) r' = pz_ce ad dA h r' := by
  have e1 : pz_u2 h.2.1 r k x r' = h.2.1 r' := by
    funext j
    rw [pz_u2_at, if_neg (fun q => hne q.1)]
  unfold pz_ce pz_fv
  simp only [e1]
theorem pz_ce_rf {ad : Nat → Nat} {dA : Nat → ClassId} {h : pz_H} {r k v : Nat} {r' : Nat} (hne : r' ≠ r) : pz_ce ad dA ((h.1.1, h.1.2.1, h.1.2.2.1, pz_u2 h.1.2.2.2 r k v), h.2) r' = pz_ce ad dA h r' := by
  have e1 : pz_u2 h.1.2.2.2 r k v r' = h.1.2.2.2 r' := by
    funext j
    rw [pz_u2_at, if_neg (fun q => hne q.1)]
  unfold pz_ce pz_fv
  simp only [e1]
theorem pz_upd {h : pz_H} {r : Nat} {i : Int} {x : Int} (hi : pz_i i) : (fun j => Int32.ofInt (pz_u2 h.2.1 r i.toNat x r j)) = upd (fun j => Int32.ofInt (h.2.1 r j)) (Int32.ofInt i).toNatClampNeg (Int32.ofInt x) := by
  funext j
  rw [pz_tnc hi, pz_u2_at]
  unfold upd
  by_cases hj : j = i.toNat
  · rw [if_pos ⟨rfl, hj⟩, if_pos hj]
  · rw [if_neg (fun q => hj q.2), if_neg hj]
theorem pz_nar_z {x : Int} (h : x = 0 ∨ x = 1) : vp_nar .boolean (Int32.ofInt x) = Int32.ofInt x := by
  rcases h with rfl | rfl <;> decide
theorem pz_nar_c {x : Int} (h : 0 ≤ x ∧ x ≤ 65535) : vp_nar .char (Int32.ofInt x) = Int32.ofInt x := by
  refine congrArg UInt32.toInt32 (?_ : (Int32.ofInt x).toUInt32.toUInt16.toUInt32 = UInt32.ofBitVec (BitVec.ofInt 32 x))
  apply UInt32.toNat_inj.mp
  rw [UInt16.toNat_toUInt32, UInt32.toNat_toUInt16]
  show (BitVec.ofInt 32 x).toNat % 2 ^ 16 = (BitVec.ofInt 32 x).toNat
  rw [BitVec.toNat_ofInt]
  omega
section PZM
variable {p : Program} {l : Launch} {e : Env} {R : Room} {s : State} {mI : MethodId} {args : Array Value} {below : List Frame} {meth : Method} {c : Code} {H H0 : Heap} {locs : List Loc} {cells slots : Nat} {Q : State → Prop}
variable {cc : ByteArray} {pc : Nat} {mls : Array Slot} {ad : Nat → Nat} {dA : Nat → ClassId} {D : va_G} {A : Nat → Prop}
theorem pz_Wget {m len a b c' e' i r : Nat} {h : pz_H} {rest : List Value} (hx : p.tables.exec = Jvm.exec) (hb : c.code = cc) (hts : ∀ w ∈ pz_gd, w.before args s = true) (hown : s.vm.findClass (pz_yy m).cls = some mI.cls) (hK : va_K D pz_cls (pz_tys dA) s)
    (hP : va_P D pz_cls (pz_ws ad dA h) H) (hck : pz_ck1 m 2 (.getfield i) len a b c' e' pc = true) (hi : pz_is h.1 r a = true) (hd : decode cc pc = .ok (.getfield i, 3))
    (k : W p l e R s mI args below meth c H locs cells slots Q (F0 mI (pc + 3) mls (pz_fv ad h a r b :: rest))) : W p l e R s mI args below meth c H locs cells slots Q (F0 mI pc mls (pz_e ad (.inr (.inl r)) :: rest)) := by
  simp only [pz_ck1, Bool.and_eq_true] at hck
  obtain ⟨-, hck⟩ := hck
  split at hck
  · rename_i o i' a' b' w he
    simp only [Bool.and_eq_true, decide_eq_true_eq, beq_iff_eq] at hck
    obtain ⟨rfl, rfl, rfl, rfl, -, hbn⟩ := hck
    obtain ⟨q, hq, hw⟩ := pz_fl_at he
    obtain ⟨g1, g2, g3⟩ := pz_is_spec hi
    have hbq : b' < q.2.2 := by rw [← pz_nf_at hq]; exact hbn
    have hr : (q.2.1 b').1 = q.1 := (pz_tk_at hq hbq).2.1
    rw [pz_e_ref g1]
    exact va_get hx hb (C := q.1) (T := q.2.1) (N := q.2.2) hts (pz_in hq) hown hK hP (r - 2) (by rw [pz_ws_at g1 g2, pz_ce_obj g3 (pz_cls_lt hq)]) hq b' hbq (hts _ hw) (fun _ h9 => h9) (by rw [List.getElem?_map, List.getElem?_range hbn]; rfl) hd k
  · cases hck
theorem pz_list_set {n k : Nat} {α : Type} {f g : Nat → α} {v : α} (hv : g k = v) (hg : ∀ j, j ≠ k → g j = f j) : (List.range n).map g = ((List.range n).map f).set k v := by
  apply List.ext_getElem?
  intro i
  rw [List.getElem?_set]
  split
  · rename_i hi
    subst hi
    split
    · rename_i hlt
      simp only [List.length_map, List.length_range] at hlt
      rw [List.getElem?_map, List.getElem?_range hlt]
      exact congrArg some hv
    · rename_i hlt
      rw [List.getElem?_eq_none]
      simpa using hlt
  · rename_i hi
    rw [List.getElem?_map, List.getElem?_map]
    cases hh : (List.range n)[i]? with
    | none => rfl
    | some z =>
      have hz : z = i := by
        have := List.getElem?_eq_some_iff.mp hh
        obtain ⟨h1, h2⟩ := this
        simpa using h2.symm
      subst hz
      exact congrArg some (hg z (fun q => hi q.symm))
theorem pz_Wput {m len a b c' e' i r : Nat} {h h' : pz_H} {v : pz_V} {rest : List Value} (hx : p.tables.exec = Jvm.exec) (hb : c.code = cc) (hts : ∀ w ∈ pz_gd, w.before args s = true) (hown : s.vm.findClass (pz_yy m).cls = some mI.cls) (hname : (pz_yy m).name = "<init>" → meth.name = "<init>") (hK : va_K D pz_cls (pz_tys dA) s)
    (hP : va_P D pz_cls (pz_ws ad dA h) H) (hD : va_D A (pz_ws ad dA h)) (hS : va_S A H0 H locs) (hck : pz_ck1 m 2 (.putfield i) len a b c' e' pc = true) (hi : pz_is h.1 r a = true) (hd : decode cc pc = .ok (.putfield i, 3)) (ho : pz_o h.1.1 v) (hf : pz_fit h.1 c' v = true)
    (hh : h' = match (generalizing := false) v with
      | .inl x => (h.1, pz_u2 h.2.1 r b x, h.2.2)
      | .inr (.inl q) => ((h.1.1, h.1.2.1, h.1.2.2.1, pz_u2 h.1.2.2.2 r b q), h.2)
      | _ => h)
    (k : ∀ (H1 : Heap) (locs1 : List Loc), va_P D pz_cls (pz_ws ad dA h') H1 → va_D A (pz_ws ad dA h') → va_S A H0 H1 locs1 → W p l e R s mI args below meth c H1 locs1 cells slots Q (F0 mI (pc + 3) mls rest)) : W p l e R s mI args below meth c H locs cells slots Q (F0 mI pc mls (pz_e ad v :: pz_e ad (.inr (.inl r)) :: rest)) := by
  simp only [pz_ck1, Bool.and_eq_true] at hck
  obtain ⟨-, hck⟩ := hck
  split at hck
  · rename_i o i' a' b' w he
    simp only [Bool.and_eq_true, decide_eq_true_eq, beq_iff_eq, Bool.or_eq_true] at hck
    obtain ⟨rfl, rfl, rfl, rfl, rfl, hbn, hfin⟩ := hck
    obtain ⟨q, hq, hw⟩ := pz_fl_at he
    obtain ⟨g1, g2, g3⟩ := pz_is_spec hi
    have hbq : b' < q.2.2 := by rw [← pz_nf_at hq]; exact hbn
    obtain ⟨⟨ty, hty, htc⟩, hr, -⟩ := pz_tk_at hq hbq
    have h12 := pz_cls_lt hq
    have he1 : (pz_ws ad dA h)[r - 2]? = some (ad r, .inr (a', (List.range (pz_nf a')).map (pz_fv ad h a' r))) := by rw [pz_ws_at g1 g2, pz_ce_obj g3 h12]
    -- the new world
    have hws : pz_ws ad dA h' = (pz_ws ad dA h).set (r - 2) (ad r, .inr (a', ((List.range (pz_nf a')).map (pz_fv ad h a' r)).set b' (pz_e ad v))) := by
      subst hh
      rcases v with x | x | x | x | x
      · refine pz_ws_set (h := h) (h' := (h.1, pz_u2 h.2.1 r b' x, h.2.2)) g1 rfl ?_ (fun r' hne => pz_ce_iv hne)
        rw [pz_ce_obj (h := (h.1, pz_u2 h.2.1 r b' x, h.2.2)) g3 h12]
        congr 2
        have hc0 : pz_tc a' b' ≠ 9 := by
          intro q9
          rw [q9] at hf
          simp [pz_fit] at hf
        refine pz_list_set ?_ (fun j hj => ?_)
        · unfold pz_fv
          rw [if_neg hc0]
          show Value.int (Int32.ofInt (pz_u2 h.2.1 r b' x r b')) = _
          rw [pz_u2_at, if_pos ⟨rfl, rfl⟩]
          rfl
        · unfold pz_fv
          show (if _ then _ else Value.int (Int32.ofInt (pz_u2 h.2.1 r b' x r j))) = _
          rw [pz_u2_at, if_neg (show ¬ (r = r ∧ j = b') from fun q9 => hj q9.2)]
      · refine pz_ws_set (h := h) (h' := ((h.1.1, h.1.2.1, h.1.2.2.1, pz_u2 h.1.2.2.2 r b' x), h.2)) g1 rfl ?_ (fun r' hne => pz_ce_rf hne)
        rw [pz_ce_obj (h := ((h.1.1, h.1.2.1, h.1.2.2.1, pz_u2 h.1.2.2.2 r b' x), h.2)) g3 h12]
        congr 2
        have hc0 : pz_tc a' b' = 9 := (pz_fit_ref hf).1
        refine pz_list_set ?_ (fun j hj => ?_)
        · unfold pz_fv
          rw [if_pos hc0]
          show pz_e ad (.inr (.inl (pz_u2 h.1.2.2.2 r b' x r b'))) = _
          rw [pz_u2_at, if_pos ⟨rfl, rfl⟩]
        · unfold pz_fv
          show (if _ then pz_e ad (.inr (.inl (pz_u2 h.1.2.2.2 r b' x r j))) else _) = _
          rw [pz_u2_at, if_neg (show ¬ (r = r ∧ j = b') from fun q9 => hj q9.2)]
      · simp [pz_fit] at hf
      · simp [pz_fit] at hf
      · simp [pz_fit] at hf
    have hnar : narrow ty (pz_e ad v) = pz_e ad v ∧ fits ty (pz_e ad v) = true := by
      rcases v with x | x | x | x | x
      · rcases htc with ⟨rfl, ht⟩ | ⟨rfl, ht⟩ | ⟨-, ht⟩ | ⟨-, ht⟩
        · exact ⟨rfl, rfl⟩
        · rw [ht] at hf
          simp [pz_fit] at hf
          rcases hf with rfl | rfl <;> exact ⟨rfl, rfl⟩
        · rw [ht] at hf; simp [pz_fit] at hf
        · rw [ht] at hf; simp [pz_fit] at hf
      · have hc0 := (pz_fit_ref hf).1
        have hz : pz_e ad (.inr (.inl x)) = .null ∨ ∃ z, pz_e ad (.inr (.inl x)) = .ref z := by
          show (if x = 0 then Value.null else .ref (ad x)) = .null ∨ ∃ z, (if x = 0 then Value.null else .ref (ad x)) = .ref z
          split
          · exact Or.inl rfl
          · exact Or.inr ⟨_, rfl⟩
        rcases htc with ⟨rfl, ht⟩ | ⟨rfl, ht⟩ | ⟨⟨n, rfl⟩, ht⟩ | ⟨⟨n, rfl⟩, ht⟩
        · omega
        · omega
        · rcases hz with hz | ⟨z, hz⟩ <;> rw [hz] <;> exact ⟨rfl, rfl⟩
        · rcases hz with hz | ⟨z, hz⟩ <;> rw [hz] <;> exact ⟨rfl, rfl⟩
      · simp [pz_fit] at hf
      · simp [pz_fit] at hf
      · simp [pz_fit] at hf
    rw [pz_e_ref g1]
    rw [hws] at k
    cases hfi : (q.2.1 b').2.2.2 with
    | false =>
      exact va_put hx hb (C := q.1) (T := q.2.1) (N := q.2.2) hts (pz_in hq) (pz_t0 q) (pz_t0_ok hq) (pz_nm_ok hq) hown hK hP hD hS (r - 2) he1 hq b' hbq (hts _ hw) (fun _ h9 => h9) hfi hty hnar.1 hnar.2 (by simp; exact hbn) hd k
    | true =>
      have h9 : pz_fin a' b' = true := by unfold pz_fin; rw [hq]; exact hfi
      rw [h9] at hfin
      simp at hfin
      obtain ⟨f1, f2⟩ := hfin
      have f3 : (q.2.1 b').1 = (pz_yy m).cls := by
        rw [hr, ← f2]
        unfold pz_cn
        rw [hq]
      exact va_putF hx hb (C := q.1) (T := q.2.1) (N := q.2.2) hts (pz_in hq) (pz_t0 q) (pz_t0_ok hq) (pz_nm_ok hq) hown hK hP hD hS (r - 2) he1 hq b' hbq (hts _ hw) (fun _ h9 => h9) hfi (hname f1) f3 hty hnar.1 hnar.2 (by simp; exact hbn) hd k
  · cases hck
end PZM
