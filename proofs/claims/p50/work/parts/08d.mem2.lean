/-! the machine follows the evaluator: the instructions of group 2 -/
theorem pz_ck2_len {m len a b c e pc : Nat} {ins : Instr} (h : pz_ck1 m 2 ins len a b c e pc = true) : len = pz_len ins := by
  simp only [pz_ck1, Bool.and_eq_true, beq_iff_eq] at h
  exact h.1
theorem pz_ws_iv {ad : Nat → Nat} {dA : Nat → ClassId} {h : pz_H} {r a : Nat} {i x : Int} (hr : 2 ≤ r) (hk : h.1.2.1 r = a) (ha : 20 ≤ a ∧ a ≤ 22) (hi : pz_i i) :
    (pz_ws ad dA h).set (r - 2) (ad r, .inl (dA a, h.1.2.2.1 r, .inl (upd (fun j => Int32.ofInt (h.2.1 r j)) (Int32.ofInt i).toNatClampNeg (Int32.ofInt x)))) = pz_ws ad dA (h.1, pz_u2 h.2.1 r i.toNat x, h.2.2) := by
  refine (pz_ws_set (h := h) (h' := (h.1, pz_u2 h.2.1 r i.toNat x, h.2.2)) hr rfl ?_ (fun r' hne => pz_ce_iv hne)).symm
  rw [pz_ce_int (h := (h.1, pz_u2 h.2.1 r i.toNat x, h.2.2)) hk ha, ← pz_upd hi]
theorem pz_ws_qv {ad : Nat → Nat} {dA : Nat → ClassId} {h : pz_H} {r v : Nat} {i : Int} (hr : 2 ≤ r) (hk : h.1.2.1 r = 23) (hi : pz_i i) (hv : v ≠ 0) :
    (pz_ws ad dA h).set (r - 2) (ad r, .inl (dA 23, h.1.2.2.1 r, .inr (.inr (.inr (.inr (va_up (fun j => pz_rr ad (h.1.2.2.2 r j)) (Int32.ofInt i).toNatClampNeg (some (ad v)))))))) = pz_ws ad dA ((h.1.1, h.1.2.1, h.1.2.2.1, pz_u2 h.1.2.2.2 r i.toNat v), h.2) := by
  refine (pz_ws_set (h := h) (h' := ((h.1.1, h.1.2.1, h.1.2.2.1, pz_u2 h.1.2.2.2 r i.toNat v), h.2)) hr rfl ?_ (fun r' hne => pz_ce_rf hne)).symm
  rw [pz_ce_ref (h := ((h.1.1, h.1.2.1, h.1.2.2.1, pz_u2 h.1.2.2.2 r i.toNat v), h.2)) hk]
  congr 7
  funext j
  rw [pz_tnc hi]
  show pz_rr ad (pz_u2 h.1.2.2.2 r i.toNat v r j) = _
  rw [pz_u2_at]
  unfold va_up
  by_cases hj : j = i.toNat
  · rw [if_pos ⟨rfl, hj⟩, if_pos hj]
    unfold pz_rr
    rw [if_neg hv]
  · rw [if_neg (fun q => hj q.2), if_neg hj]
theorem pz_arr_eq {D : va_G} {cl : List vw_C} {tys : List (ClassId × FieldType)} {U : State} {t0 : Nat} {cA cB : ClassId} {ty : FieldType} (hK : va_K D cl tys U) (ht : tys[t0]? = some (cA, ty)) (hK' : va_K D cl (tys ++ [(cB, ty)]) U) : cB = cA := by
  have h1 := (hK.2 t0 _ ht).2
  have h2 := (hK'.2 tys.length (cB, ty) (by simp)).2
  cases ty with
  | object C =>
    obtain ⟨_, _, _, _, _, h4⟩ := h1
    obtain ⟨_, _, _, _, _, h5⟩ := h2
    exact Option.some.inj (h5.symm.trans h4)
  | _ => exact Option.some.inj (h2.symm.trans h1)
/-- words of a class: may be made, is ready -/
def pz_iw : List (Nat × Nat) := [(133, 18), (52, 15), (112, 17), (157, 19), (220, 20), (226, 21), (46, 14), (315, 23), (277, 22), (86, 16), (38, 13)]
def pz_nk : Bool := pz_nl.all (fun x => match pz_cls[x.2.2.1]? with
  | some q => (match pz_iw[x.2.2.1]? with
    | some w => decide (lw_tbl[x.2.2.2]? = some (.classLink x.1 x.2.1 q.1) ∧ lw_tbl[w.1]? = some (.instantiable q.1 q.2.2) ∧ lw_tbl[w.2]? = some (.initialized q.1))
    | none => false)
  | none => false)
theorem pz_nk_ok : pz_nk = true := by decide +kernel
theorem pz_nl_at {o : String} {i a w e : Nat} (h : pz_nl[e]? = some (o, i, a, w)) : ∃ q, pz_cls[a]? = some q ∧ Cond.classLink o i q.1 ∈ pz_gd ∧ Cond.instantiable q.1 q.2.2 ∈ pz_gd ∧ Cond.initialized q.1 ∈ pz_gd := by
  have h1 := List.all_eq_true.mp pz_nk_ok _ (List.mem_of_getElem? h)
  dsimp only at h1
  split at h1
  · rename_i q hq
    split at h1
    · have h2 := of_decide_eq_true h1
      exact ⟨q, hq, pz_gd_in h2.1 rfl, pz_gd_in h2.2.1 rfl, pz_gd_in h2.2.2 rfl⟩
    · cases h1
  · cases h1
theorem pz_ac : Cond.arrayClass .int ∈ pz_gd ∧ Cond.arrayClass .boolean ∈ pz_gd ∧ Cond.arrayClass .char ∈ pz_gd :=
  ⟨pz_gd_in (i := 83) (by decide +kernel) rfl, pz_gd_in (i := 84) (by decide +kernel) rfl, pz_gd_in (i := 217) (by decide +kernel) rfl⟩
theorem pz_u1_up {ad : Nat → Nat} {n q : Nat} : ∀ r, r < n + 2 → pz_u1 ad (n + 2) q r = ad r := fun r hr => by rw [pz_u1_at, if_neg (by omega)]
theorem pz_new_k {h : pz_H} {kd ln sl : Nat} : (pz_new h kd ln sl).1.2.1 (h.1.1 + 2) = kd := by show pz_u1 _ _ _ _ = _; rw [pz_u1_at, if_pos rfl]
theorem pz_new_l {h : pz_H} {kd ln sl : Nat} : (pz_new h kd ln sl).1.2.2.1 (h.1.1 + 2) = ln := by show pz_u1 _ _ _ _ = _; rw [pz_u1_at, if_pos rfl]
theorem pz_new_i {h : pz_H} {kd ln sl : Nat} : (pz_new h kd ln sl).2.1 (h.1.1 + 2) = fun _ => 0 := by show pz_u1 _ _ _ _ = _; rw [pz_u1_at, if_pos rfl]
theorem pz_new_d {h : pz_H} {kd ln sl : Nat} : (pz_new h kd ln sl).2.2.1 (h.1.1 + 2) = fun _ => 0 := by show pz_u1 _ _ _ _ = _; rw [pz_u1_at, if_pos rfl]
theorem pz_new_r {h : pz_H} {kd ln sl : Nat} : (pz_new h kd ln sl).1.2.2.2 (h.1.1 + 2) = fun _ => 0 := by show pz_u1 _ _ _ _ = _; rw [pz_u1_at, if_pos rfl]
section PZN
variable {p : Program} {l : Launch} {e : Env} {R : Room} {s : State} {mI : MethodId} {args : Array Value} {below : List Frame} {meth : Method} {c : Code} {H H0 : Heap} {locs : List Loc} {cells slots : Nat} {Q : State → Prop}
variable {cc : ByteArray} {pc : Nat} {mls : Array Slot} {ad : Nat → Nat} {dA : Nat → ClassId} {D : va_G} {A : Nat → Prop}
theorem pz_Wnewo {m len a b c' e' i c0 s0 : Nat} {h : pz_H} {rest : List pz_V} (hx : p.tables.exec = Jvm.exec) (hb : c.code = cc) (hts : ∀ w ∈ pz_gd, w.before args s = true) (hown : s.vm.findClass (pz_yy m).cls = some mI.cls) (hK : va_K D pz_cls (pz_tys dA) s)
    (hP : va_P D pz_cls (pz_ws ad dA h) H) (hD : va_D A (pz_ws ad dA h)) (hS : va_S A H0 H locs) (hA : ∀ q, H0.size ≤ q → A q) (hr : ∀ r j, h.1.2.2.2 r j < h.1.1 + 2) (hck : pz_ck1 m 2 (.new i) len a b c' e' pc = true) (hd : decode cc pc = .ok (.new i, 3)) (ho : ∀ v ∈ rest, pz_o h.1.1 v)
    (hcs : cells + c0 = h.2.2.2.1) (hss : slots + s0 = h.2.2.2.2) (hrc : h.2.2.2.1 + 1 ≤ c0 + R.cells) (hrs : h.2.2.2.2 + b ≤ s0 + R.slots)
    (k : ∀ (q : Nat) (H1 : Heap), va_P D pz_cls (pz_ws (pz_u1 ad (h.1.1 + 2) q) dA (pz_new h a 0 b)) H1 → va_D A (pz_ws (pz_u1 ad (h.1.1 + 2) q) dA (pz_new h a 0 b)) → va_S A H0 H1 locs → W p l e R s mI args below meth c H1 locs (cells + 1) (slots + b) Q (F0 mI (pc + 3) mls ((.inr (.inl (h.1.1 + 2)) :: rest).map (pz_e (pz_u1 ad (h.1.1 + 2) q))))) : W p l e R s mI args below meth c H locs cells slots Q (F0 mI pc mls (rest.map (pz_e ad))) := by
  simp only [pz_ck1, Bool.and_eq_true] at hck
  obtain ⟨-, hck⟩ := hck
  split at hck
  · rename_i o i' a' w he
    simp only [Bool.and_eq_true, decide_eq_true_eq, beq_iff_eq] at hck
    obtain ⟨rfl, rfl, rfl, hb', h12⟩ := hck
    obtain ⟨q, hq, w1, w2, w3⟩ := pz_nl_at he
    have hbn : b = q.2.2 := by rw [hb', pz_nf_at hq]
    refine va_new hx hb (C := q.1) (T := q.2.1) (N := q.2.2) (Ts := pz_gd) hts (pz_in hq) (pz_t0 q) (pz_t0_ok hq) hown (hts _ w1) (hts _ w2) (hts _ w3) hK hP hD hS hA hq (fs := (List.range (pz_nf a')).map (pz_fv ad (pz_new h a' 0 b) a' (h.1.1 + 2))) ?_ (by omega) (by omega) hd ?_
    · intro j hj
      have e1 : vp_V ((List.range (pz_nf a')).map (pz_fv ad (pz_new h a' 0 b) a' (h.1.1 + 2))) j = pz_fv ad (pz_new h a' 0 b) a' (h.1.1 + 2) j := by
        unfold vp_V
        rw [List.getD_eq_getElem?_getD, List.getElem?_map, List.getElem?_range (by rw [pz_nf_at hq]; exact hj)]
        rfl
      rw [e1]
      unfold pz_fv
      rw [pz_new_i, pz_new_r]
      obtain ⟨⟨ty, hty, hc⟩, -⟩ := pz_tk_at hq hj
      have e2 : pz_t0 q j = ty := by unfold pz_t0; rw [hty]; rfl
      rw [e2]
      rcases hc with ⟨rfl, ht⟩ | ⟨rfl, ht⟩ | ⟨⟨n, rfl⟩, ht⟩ | ⟨⟨n, rfl⟩, ht⟩ <;> rw [ht] <;> rfl
    · intro q1 H1 g1 g2 g3
      have e3 : pz_ws (pz_u1 ad (h.1.1 + 2) q1) dA (pz_new h a' 0 b) = pz_ws ad dA h ++ [(q1, .inr (a', (List.range (pz_nf a')).map (pz_fv ad (pz_new h a' 0 b) a' (h.1.1 + 2))))] := by
        refine pz_ws_new hr ?_
        rw [pz_ce_obj pz_new_k h12]
        congr 2
        apply List.map_congr_left
        intro j _
        unfold pz_fv
        rw [pz_new_r, pz_new_i]
        rfl
      have k := k q1 H1
      rw [e3] at k
      have k := k g1 g2 g3
      simp only [List.map_cons] at k
      rw [pz_es_same (n := h.1.1) (pz_u1_up) ho] at k
      have e4 : pz_e (pz_u1 ad (h.1.1 + 2) q1) (.inr (.inl (h.1.1 + 2))) = .ref q1 := by
        rw [pz_e_ref (by omega), pz_u1_at, if_pos rfl]
      rw [e4, hbn] at k
      exact k
  · cases hck
theorem pz_Wnewa {a c0 s0 t0 : Nat} {t : ArrayType} {ty : FieldType} {n : Int} {h : pz_H} {rest : List pz_V} {a0 : vp_A} (hx : p.tables.exec = Jvm.exec) (hb : c.code = cc) (hK : va_K D pz_cls (pz_tys dA) s)
    (hP : va_P D pz_cls (pz_ws ad dA h) H) (hD : va_D A (pz_ws ad dA h)) (hS : va_S A H0 H locs) (hA : ∀ q, H0.size ≤ q → A q) (hr : ∀ r j, h.1.2.2.2 r j < h.1.1 + 2) (hd : decode cc pc = .ok (.newarray t, 2)) (ho : ∀ v ∈ rest, pz_o h.1.1 v)
    (hn0 : 0 ≤ n) (hn1 : n ≤ 65536) (harr : (Cond.arrayClass (newarray.typeOf t)).before args s = true) (hty : newarray.typeOf t = ty) (hcb : componentBytes ty ≤ 8) (ht0 : (pz_tys dA)[t0]? = some (dA a, ty)) (ha : ∀ cA : ClassId, vp_cell cA a0 = arrV cA n.toNat (fun _ => defaultValue ty)) (hce : ∀ q, pz_ce (pz_u1 ad (h.1.1 + 2) q) dA (pz_new h a n.toNat n.toNat) (h.1.1 + 2) = .inl (dA a, a0))
    (hcs : cells + c0 = h.2.2.2.1) (hss : slots + s0 = h.2.2.2.2) (hrc : h.2.2.2.1 + 1 ≤ c0 + R.cells) (hrs : h.2.2.2.2 + n.toNat ≤ s0 + R.slots)
    (k : ∀ (q : Nat) (H1 : Heap), va_P D pz_cls (pz_ws (pz_u1 ad (h.1.1 + 2) q) dA (pz_new h a n.toNat n.toNat)) H1 → va_D A (pz_ws (pz_u1 ad (h.1.1 + 2) q) dA (pz_new h a n.toNat n.toNat)) → va_S A H0 H1 locs → W p l e R s mI args below meth c H1 locs (cells + 1) (slots + n.toNat) Q (F0 mI (pc + 2) mls ((.inr (.inl (h.1.1 + 2)) :: rest).map (pz_e (pz_u1 ad (h.1.1 + 2) q))))) : W p l e R s mI args below meth c H locs cells slots Q (F0 mI pc mls (.int (Int32.ofInt n) :: rest.map (pz_e ad))) := by
  have hni : pz_i n := ⟨by omega, by omega⟩
  refine va_newa hx hb harr hty hK hP hD hS hA (n := Int32.ofInt n) (N' := n.toNat) ha ?_ (pz_tnc hni) (Nat.le_trans (Nat.mul_le_mul (show n.toNat ≤ 65536 by omega) hcb) (by omega)) (by omega) (by omega) hd ?_
  · intro q
    rw [show (0 : Int32) = Int32.ofInt 0 from rfl, pz_ilt hni ⟨by omega, by omega⟩] at q
    omega
  · intro q1 cA H1 gK g1 g2 g3
    have hc := pz_arr_eq hK ht0 gK
    subst hc
    have k := k q1 H1
    rw [pz_ws_new hr (hce q1)] at k
    have k := k g1 g2 g3
    simp only [List.map_cons] at k
    rw [pz_es_same (n := h.1.1) (pz_u1_up) ho] at k
    have e4 : pz_e (pz_u1 ad (h.1.1 + 2) q1) (.inr (.inl (h.1.1 + 2))) = .ref q1 := by
      rw [pz_e_ref (by omega), pz_u1_at, if_pos rfl]
    rw [e4] at k
    exact k
set_option maxHeartbeats 8000000 in
theorem pz_W2 {L : Nat} {xs : Nat → Int32} {m len a b c' e' c0 s0 : Nat} {ins : Instr} {st st' : List pz_V} {h h' : pz_H} (hx : p.tables.exec = Jvm.exec) (hb : c.code = cc) (hts : ∀ w ∈ pz_gd, w.before args s = true) (hown : s.vm.findClass (pz_yy m).cls = some mI.cls) (hname : (pz_yy m).name = "<init>" → meth.name = "<init>") (hK : va_K D pz_cls (pz_tys dA) s)
    (hP : va_P D pz_cls (pz_ws ad dA h) H) (hD : va_D A (pz_ws ad dA h)) (hS : va_S A H0 H locs) (hA : ∀ q, H0.size ≤ q → A q) (hX : va_X (ad 1) L xs s H0) (hbl : ad 1 < H0.size) (hbA : ¬ A (ad 1)) (hao : va_AO "Simplespan$Plan" s)
    (q : pz_hk L xs h) (ho : ∀ v ∈ st, pz_o h.1.1 v) (hm : pz_mem ins a b c' st h = some (st', h')) (hck : pz_ck1 m 2 ins len a b c' e' pc = true) (hd : decode cc pc = .ok (ins, len))
    (hcs : cells + c0 = h.2.2.2.1) (hss : slots + s0 = h.2.2.2.2) (hrc : h'.2.2.2.1 ≤ c0 + R.cells) (hrs : h'.2.2.2.2 ≤ s0 + R.slots)
    (k : ∀ (ad' : Nat → Nat) (H1 : Heap) (locs1 : List Loc) (cells1 slots1 : Nat), (∀ r, r < h.1.1 + 2 → ad' r = ad r) → va_P D pz_cls (pz_ws ad' dA h') H1 → va_D A (pz_ws ad' dA h') → va_S A H0 H1 locs1 → cells1 + c0 = h'.2.2.2.1 → slots1 + s0 = h'.2.2.2.2 →
      W p l e R s mI args below meth c H1 locs1 cells1 slots1 Q (F0 mI (pc + len) mls (st'.map (pz_e ad')))) : W p l e R s mI args below meth c H locs cells slots Q (F0 mI pc mls (st.map (pz_e ad))) := by
  have hlen := pz_ck2_len hck
  obtain ⟨t0, t1, t2, t3⟩ := pz_tys_at dA
  unfold pz_mem at hm
  split at hm
  · -- getfield
    split at hm
    · rename_i hi
      cases hm
      subst hlen
      have k := k ad H locs cells slots (fun _ _ => rfl) hP hD hS hcs hss
      simp only [List.map_cons] at k ⊢
      refine pz_Wget hx hb hts hown hK hP hck hi hd ?_
      obtain ⟨e1, -⟩ := pz_ck_get hck
      rw [e1] at k
      unfold pz_fv
      split at k
      · rename_i h9; rw [if_pos h9]; exact k
      · rename_i h9; rw [if_neg h9]; exact k
    · cases hm
  · -- putfield
    split at hm
    · rename_i hi
      subst hlen
      have ho1 := ho _ List.mem_cons_self
      split at hm
      · cases hm
        simp only [List.map_cons]
        exact pz_Wput hx hb hts hown hname hK hP hD hS hck hi.1 hd ho1 hi.2 rfl (fun H1 locs1 g1 g2 g3 => k ad H1 locs1 cells slots (fun _ _ => rfl) g1 g2 g3 hcs hss)
      · cases hm
        simp only [List.map_cons]
        exact pz_Wput hx hb hts hown hname hK hP hD hS hck hi.1 hd ho1 hi.2 rfl (fun H1 locs1 g1 g2 g3 => k ad H1 locs1 cells slots (fun _ _ => rfl) g1 g2 g3 hcs hss)
      · cases hm
    · cases hm
  · -- iaload
    split at hm
    · rename_i i r st1 hi
      cases hm
      subst hlen
      have hii : pz_i i := ho (.inl i) List.mem_cons_self
      have k := k ad H locs cells slots (fun _ _ => rfl) hP hD hS hcs hss
      simp only [List.map_cons] at k ⊢
      have h6 := hi.1
      simp only [pz_ia, Bool.or_eq_true, decide_eq_true_eq] at h6
      rcases h6 with h6 | h6
      · obtain ⟨g1, g2, g3⟩ := pz_is_spec h6
        rw [pz_e_ref g1]
        refine va_iald hx hb hK hP (r - 2) 0 (by rw [pz_ws_at g1 g2, pz_ce_int g3 ⟨by omega, by omega⟩]) t0 (pz_vpin hii hi.2.1 hi.2.2) hd ?_
        rw [pz_tnc hii]
        exact k
      · subst h6
        have h7 := hi.2.2
        rw [q.2.2.1] at h7
        refine va_sld hx hb hX hbl hbA hS (pz_vpin hii hi.2.1 h7) hd ?_
        rw [pz_tnc hii]
        have e1 : pz_e ad (.inl (h.2.1 1 i.toNat)) = .int (xs i.toNat) := by
          show Value.int (Int32.ofInt (h.2.1 1 i.toNat)) = _
          rw [q.2.2.2.1 _ (by omega), Int32.ofInt_toInt]
        rw [e1] at k
        exact k
    · cases hm
  · -- baload
    split at hm
    · rename_i i r st1 hi
      cases hm
      subst hlen
      have hii : pz_i i := ho (.inl i) List.mem_cons_self
      have k := k ad H locs cells slots (fun _ _ => rfl) hP hD hS hcs hss
      simp only [List.map_cons] at k ⊢
      obtain ⟨g1, g2, g3⟩ := pz_is_spec hi.1
      rw [pz_e_ref g1]
      refine va_zald hx hb hK hP (r - 2) 1 (by rw [pz_ws_at g1 g2, pz_ce_int g3 ⟨by omega, by omega⟩]) t1 (pz_vpin hii hi.2.1 hi.2.2) hd ?_
      rw [pz_tnc hii]
      exact k
    · cases hm
  · -- caload
    split at hm
    · rename_i i r st1 hi
      cases hm
      subst hlen
      have hii : pz_i i := ho (.inl i) List.mem_cons_self
      have k := k ad H locs cells slots (fun _ _ => rfl) hP hD hS hcs hss
      simp only [List.map_cons] at k ⊢
      obtain ⟨g1, g2, g3⟩ := pz_is_spec hi.1
      rw [pz_e_ref g1]
      refine va_cald hx hb hK hP (r - 2) 2 (by rw [pz_ws_at g1 g2, pz_ce_int g3 ⟨by omega, by omega⟩]) t2 (pz_vpin hii hi.2.1 hi.2.2) hd ?_
      rw [pz_tnc hii]
      exact k
    · cases hm
  · -- aaload
    split at hm
    · rename_i i r st1 hi
      cases hm
      subst hlen
      have hii : pz_i i := ho (.inl i) List.mem_cons_self
      have k := k ad H locs cells slots (fun _ _ => rfl) hP hD hS hcs hss
      simp only [List.map_cons] at k ⊢
      obtain ⟨g1, g2, g3⟩ := pz_is_spec hi.1
      rw [pz_e_ref g1]
      refine va_aldq hx hb hK hP (r - 2) 3 (by rw [pz_ws_at g1 g2, pz_ce_ref g3]) t3 (pz_vpin hii hi.2.1 hi.2.2) hd ?_
      rw [pz_tnc hii, pz_rr_e]
      exact k
    · cases hm
  · -- iastore
    split at hm
    · rename_i x i r st1 hi
      cases hm
      subst hlen
      have hii : pz_i i := ho (.inl i) (List.mem_cons_of_mem _ List.mem_cons_self)
      have k := fun H1 locs1 g1 g2 g3 => k ad H1 locs1 cells slots (fun _ _ => rfl) g1 g2 g3 hcs hss
      simp only [List.map_cons]
      obtain ⟨g1, g2, g3⟩ := pz_is_spec hi.1
      rw [pz_e_ref g1]
      rw [← pz_ws_iv g1 g3 ⟨by omega, by omega⟩ hii] at k
      exact va_iast hx hb hK hP hD hS (r - 2) 0 (by rw [pz_ws_at g1 g2, pz_ce_int g3 ⟨by omega, by omega⟩]) t0 (pz_vpin hii hi.2.1 hi.2.2) hd k
    · cases hm
  · -- bastore
    split at hm
    · rename_i x i r st1 hi
      cases hm
      subst hlen
      have hii : pz_i i := ho (.inl i) (List.mem_cons_of_mem _ List.mem_cons_self)
      have k := fun H1 locs1 g1 g2 g3 => k ad H1 locs1 cells slots (fun _ _ => rfl) g1 g2 g3 hcs hss
      simp only [List.map_cons]
      obtain ⟨g1, g2, g3⟩ := pz_is_spec hi.1
      rw [pz_e_ref g1]
      rw [← pz_ws_iv g1 g3 ⟨by omega, by omega⟩ hii, ← pz_nar_z hi.2.2.2] at k
      exact va_zast hx hb hK hP hD hS (r - 2) 1 (by rw [pz_ws_at g1 g2, pz_ce_int g3 ⟨by omega, by omega⟩]) t1 (pz_vpin hii hi.2.1 hi.2.2.1) hd k
    · cases hm
  · -- castore
    split at hm
    · rename_i x i r st1 hi
      cases hm
      subst hlen
      have hii : pz_i i := ho (.inl i) (List.mem_cons_of_mem _ List.mem_cons_self)
      have k := fun H1 locs1 g1 g2 g3 => k ad H1 locs1 cells slots (fun _ _ => rfl) g1 g2 g3 hcs hss
      simp only [List.map_cons]
      obtain ⟨g1, g2, g3⟩ := pz_is_spec hi.1
      rw [pz_e_ref g1]
      rw [← pz_ws_iv g1 g3 ⟨by omega, by omega⟩ hii, ← pz_nar_c hi.2.2.2] at k
      exact va_cast hx hb hK hP hD hS (r - 2) 2 (by rw [pz_ws_at g1 g2, pz_ce_int g3 ⟨by omega, by omega⟩]) t2 (pz_vpin hii hi.2.1 hi.2.2.1) hd k
    · cases hm
  · -- aastore
    split at hm
    · rename_i v i r st1 hi
      cases hm
      subst hlen
      have hii : pz_i i := ho (.inl i) (List.mem_cons_of_mem _ List.mem_cons_self)
      have k := fun H1 locs1 g1 g2 g3 => k ad H1 locs1 cells slots (fun _ _ => rfl) g1 g2 g3 hcs hss
      simp only [List.map_cons]
      obtain ⟨g1, g2, g3⟩ := pz_is_spec hi.1
      obtain ⟨f1, f2, f3⟩ := pz_is_spec hi.2.2.2
      rw [pz_e_ref g1, pz_e_ref f1]
      rw [← pz_ws_qv g1 g3 hii (by omega)] at k
      exact va_astq hx hb hK hP hD hS (r - 2) 3 (v - 2) 6 (by rw [pz_ws_at g1 g2, pz_ce_ref g3]) t3 (by rw [pz_ws_at f1 f2, pz_ce_obj f3 (by omega)]) rfl (pz_vpin hii hi.2.1 hi.2.2.1) hd k
    · cases hm
  · -- arraylength
    split at hm
    · rename_i r st1 hi
      cases hm
      subst hlen
      have k := k ad H locs cells slots (fun _ _ => rfl) hP hD hS hcs hss
      simp only [List.map_cons] at k ⊢
      simp only [pz_aa, Bool.or_eq_true, Bool.and_eq_true, decide_eq_true_eq] at hi
      have hl := q.2.2.2.2 r
      have e1 : pz_e ad (.inl ((h.1.2.2.1 r : Nat) : Int)) = .int (Int32.ofNat (h.1.2.2.1 r)) := rfl
      rw [e1] at k
      rcases hi with hi | ⟨g1, g2, g4, g5⟩
      · subst hi
        rw [q.2.2.1] at k
        exact va_slen hx hb hX hbl hbA hS hd k
      · rw [pz_e_ref g1]
        have h7 : h.1.2.1 r = 20 ∨ h.1.2.1 r = 21 ∨ h.1.2.1 r = 22 ∨ h.1.2.1 r = 23 := by omega
        rcases h7 with g3 | g3 | g3 | g3
        · exact va_alen hx hb hK hP (r - 2) 0 (by rw [pz_ws_at g1 g2, pz_ce_int g3 ⟨by omega, by omega⟩]) t0 (v := Int32.ofNat (h.1.2.2.1 r)) rfl hd k
        · exact va_alen hx hb hK hP (r - 2) 1 (by rw [pz_ws_at g1 g2, pz_ce_int g3 ⟨by omega, by omega⟩]) t1 (v := Int32.ofNat (h.1.2.2.1 r)) rfl hd k
        · exact va_alen hx hb hK hP (r - 2) 2 (by rw [pz_ws_at g1 g2, pz_ce_int g3 ⟨by omega, by omega⟩]) t2 (v := Int32.ofNat (h.1.2.2.1 r)) rfl hd k
        · exact va_alen hx hb hK hP (r - 2) 3 (by rw [pz_ws_at g1 g2, pz_ce_ref g3]) t3 (v := Int32.ofNat (h.1.2.2.1 r)) rfl hd k
    · cases hm
  · -- new
    cases hm
    subst hlen
    exact pz_Wnewo hx hb hts hown hK hP hD hS hA q.2.1 hck hd ho hcs hss hrc hrs (fun q1 H1 g1 g2 g3 => k _ H1 locs _ _ pz_u1_up g1 g2 g3 (by show cells + 1 + c0 = h.2.2.2.1 + 1; omega) (by show slots + b + s0 = h.2.2.2.2 + b; omega))
  · -- newarray
    split at hm
    · rename_i t n st1 hi
      cases hm
      subst hlen
      have ho1 : ∀ v ∈ st1, pz_o h.1.1 v := fun v hv => ho v (List.mem_cons_of_mem _ hv)
      have k := fun (q1 : Nat) (H1 : Heap) g1 g2 g3 => k (pz_u1 ad (h.1.1 + 2) q1) H1 locs (cells + 1) (slots + n.toNat) pz_u1_up g1 g2 g3 (by show cells + 1 + c0 = h.2.2.2.1 + 1; omega) (by show slots + n.toNat + s0 = h.2.2.2.2 + n.toNat; omega)
      simp only [pz_ck1, Bool.and_eq_true] at hck
      obtain ⟨-, hck⟩ := hck
      simp only [List.map_cons]
      split at hck
      · have ha := eq_of_beq hck
        subst ha
        exact pz_Wnewa hx hb hK hP hD hS hA q.2.1 hd ho1 hi.1 hi.2 (hts _ pz_ac.1) rfl (by decide) t0 (a0 := (n.toNat, .inl (fun _ => 0))) (fun cA => vp_cell_i ..) (fun q1 => by rw [pz_ce_int pz_new_k ⟨by omega, by omega⟩, pz_new_l, pz_new_i]; rfl) hcs hss hrc hrs k
      · have ha := eq_of_beq hck
        subst ha
        exact pz_Wnewa hx hb hK hP hD hS hA q.2.1 hd ho1 hi.1 hi.2 (hts _ pz_ac.2.1) rfl (by decide) t1 (a0 := (n.toNat, .inl (fun _ => 0))) (fun cA => vp_cell_i ..) (fun q1 => by rw [pz_ce_int pz_new_k ⟨by omega, by omega⟩, pz_new_l, pz_new_i]; rfl) hcs hss hrc hrs k
      · have ha := eq_of_beq hck
        subst ha
        exact pz_Wnewa hx hb hK hP hD hS hA q.2.1 hd ho1 hi.1 hi.2 (hts _ pz_ac.2.2) rfl (by decide) t2 (a0 := (n.toNat, .inl (fun _ => 0))) (fun cA => vp_cell_i ..) (fun q1 => by rw [pz_ce_int pz_new_k ⟨by omega, by omega⟩, pz_new_l, pz_new_i]; rfl) hcs hss hrc hrs k
      · cases hck
    · cases hm
  · -- anewarray
    split at hm
    · rename_i ix n st1 hi
      cases hm
      subst hlen
      have ho1 : ∀ v ∈ st1, pz_o h.1.1 v := fun v hv => ho v (List.mem_cons_of_mem _ hv)
      have hni : pz_i n := ⟨by omega, by omega⟩
      simp only [pz_ck1, Bool.and_eq_true] at hck
      obtain ⟨-, hck⟩ := hck
      simp only [List.map_cons]
      split at hck
      · rename_i o i' a' w he
        simp only [Bool.and_eq_true, decide_eq_true_eq, beq_iff_eq] at hck
        obtain ⟨rfl, rfl, rfl⟩ := hck
        obtain ⟨q6, hq6, w1, w2, w3⟩ := pz_nl_at he
        have e6 : q6.1 = "Simplespan$Plan" := by
          have e7 : pz_cls[6]? = some q6 := hq6
          cases e7
          rfl
        rw [e6] at w1
        have hrc' : h.2.2.2.1 + 1 ≤ c0 + R.cells := hrc
        have hrs' : h.2.2.2.2 + n.toNat ≤ s0 + R.slots := hrs
        refine va_newq hx hb hown (hts _ w1) hao hK hP hD hS hA (n := Int32.ofInt n) (N' := n.toNat) ?_ (pz_tnc hni) (by omega) (by omega) (by omega) hd ?_
        · intro q9
          rw [show (0 : Int32) = Int32.ofInt 0 from rfl, pz_ilt hni ⟨by omega, by omega⟩] at q9
          omega
        · intro q1 cA H1 gK g1 g2 g3
          have hc := pz_arr_eq hK t3 gK
          subst hc
          have k := k (pz_u1 ad (h.1.1 + 2) q1) H1 locs (cells + 1) (slots + n.toNat) pz_u1_up
          rw [pz_ws_new q.2.1 (z := .inl (dA 23, n.toNat, .inr (.inr (.inr (.inr (fun _ => none)))))) (by rw [pz_ce_ref pz_new_k, pz_new_l, pz_new_r]; rfl)] at k
          have k := k g1 g2 g3 (by show cells + 1 + c0 = h.2.2.2.1 + 1; omega) (by show slots + n.toNat + s0 = h.2.2.2.2 + n.toNat; omega)
          simp only [List.map_cons] at k
          rw [pz_es_same (n := h.1.1) (pz_u1_up) ho1] at k
          have e4 : pz_e (pz_u1 ad (h.1.1 + 2) q1) (.inr (.inl (h.1.1 + 2))) = .ref q1 := by
            rw [pz_e_ref (by omega), pz_u1_at, if_pos rfl]
          rw [e4] at k
          exact k
      · cases hck
    · cases hm
  · cases hm
end PZN
