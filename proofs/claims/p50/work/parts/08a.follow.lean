/-! the machine follows the evaluator: values, locals, plain instructions -/
/-- what the machine has where the evaluator has a value; ad: where the cells lie -/
def pz_e (ad : Nat → Nat) : pz_V → Value
  | .inl x => .int (Int32.ofInt x)
  | .inr (.inl r) => if r = 0 then .null else .ref (ad r)
  | .inr (.inr (.inl x)) => .long (Int64.ofInt x)
  | .inr (.inr (.inr (.inl x))) => .float x
  | .inr (.inr (.inr (.inr x))) => .double x
theorem pz_e_cat (ad : Nat → Nat) : ∀ v : pz_V, (pz_e ad v).category = pz_cat v
  | .inl _ => rfl
  | .inr (.inl r) => by
    show Value.category (if r = 0 then .null else .ref (ad r)) = 1
    split <;> rfl
  | .inr (.inr (.inl _)) => rfl
  | .inr (.inr (.inr (.inl _))) => rfl
  | .inr (.inr (.inr (.inr _))) => rfl
theorem pz_e_same {ad ad' : Nat → Nat} {n : Nat} (h : ∀ r, r < n + 2 → ad' r = ad r) : ∀ {v : pz_V}, pz_o n v → pz_e ad' v = pz_e ad v
  | .inl _, _ => rfl
  | .inr (.inl r), hv => by
    show (if r = 0 then Value.null else .ref (ad' r)) = (if r = 0 then Value.null else .ref (ad r))
    rw [h r hv]
  | .inr (.inr (.inl _)), _ => rfl
  | .inr (.inr (.inr (.inl _))), _ => rfl
  | .inr (.inr (.inr (.inr _))), _ => rfl
theorem pz_es_same {ad ad' : Nat → Nat} {n : Nat} (h : ∀ r, r < n + 2 → ad' r = ad r) {st : List pz_V} (hv : ∀ v ∈ st, pz_o n v) : st.map (pz_e ad') = st.map (pz_e ad) :=
  List.map_congr_left fun v hm => pz_e_same h (hv v hm)
/-- the machine's locals hold the evaluator's -/
def pz_lv (ad : Nat → Nat) (n : Nat) (ls : pz_L) (mls : Array Slot) : Prop := lv_wf mls ∧ mls.size = n ∧ ls.length = n ∧ ∀ (k : Nat) (v : pz_V), ls[k]? = some (some v) → mls[k]? = some (.val (pz_e ad v))
def pz_ll (ad : Nat → Nat) (ls : pz_L) : List (Nat × Value) := (List.range ls.length).filterMap (fun k => match ls[k]? with
  | some (some v) => some (k, pz_e ad v)
  | _ => none)
theorem pz_ll_in {ad : Nat → Nat} {ls : pz_L} {k : Nat} {v : pz_V} (h : ls[k]? = some (some v)) : (k, pz_e ad v) ∈ pz_ll ad ls := by
  refine List.mem_filterMap.mpr ⟨k, List.mem_range.mpr (List.getElem?_eq_some_iff.mp h).1, ?_⟩
  rw [h]
theorem pz_ll_of {ad : Nat → Nat} {ls : pz_L} {q : Nat × Value} (h : q ∈ pz_ll ad ls) : ∃ v, ls[q.1]? = some (some v) ∧ q.2 = pz_e ad v := by
  obtain ⟨k, -, hk⟩ := List.mem_filterMap.mp h
  split at hk
  · rename_i v hv
    cases hk
    exact ⟨v, hv, rfl⟩
  · cases hk
theorem pz_lv.has {ad : Nat → Nat} {n : Nat} {ls : pz_L} {mls : Array Slot} (h : pz_lv ad n ls mls) : lv_has mls n (pz_ll ad ls) := by
  refine ⟨h.2.1, h.1, fun q hq => ?_⟩
  obtain ⟨v, h1, h2⟩ := pz_ll_of hq
  rw [h2]
  exact h.2.2.2 _ _ h1
theorem pz_lv_set1 {ad : Nat → Nat} {n i : Nat} {ls : pz_L} {mls : Array Slot} {v : pz_V} (hc : pz_cat v = 1) (hlen : ls.length = n) (hnp : pz_np ls i = true)
    (h : lv_has mls n ((i, pz_e ad v) :: (pz_ll ad ls).filter (fun q => !(q.1 == i) && !(q.1 + 1 == i && q.2.category == 2)))) : pz_lv ad n (pz_set ls i v) mls := by
  refine ⟨h.2.1, h.1, by rw [pz_set_len]; exact hlen, fun k u hu => ?_⟩
  unfold pz_set at hu
  rw [if_neg (by omega), List.getElem?_set] at hu
  split at hu
  · rename_i hk
    subst hk
    split at hu
    · cases hu
      exact h.2.2 _ List.mem_cons_self
    · cases hu
  · rename_i hk
    refine h.2.2 (k, pz_e ad u) (List.mem_cons_of_mem _ (List.mem_filter.mpr ⟨pz_ll_in hu, ?_⟩))
    have h1 : (k == i) = false := by simpa using fun q => hk q.symm
    rw [h1]
    by_cases h2 : k + 1 = i
    · have h3 := pz_np_spec hnp k u h2.symm hu
      have h4 : ((pz_e ad u).category == 2) = false := by rw [pz_e_cat, h3]; rfl
      simp [h4]
    · have h3 : (k + 1 == i) = false := by simpa using h2
      simp [h3]
theorem pz_lv_set2 {ad : Nat → Nat} {n i : Nat} {ls : pz_L} {mls : Array Slot} {v : pz_V} (hc : pz_cat v = 2) (hlen : ls.length = n) (hnp : pz_np ls i = true)
    (h : lv_has mls n ((i, pz_e ad v) :: (pz_ll ad ls).filter (fun q => !(q.1 == i) && (!(q.1 == i + 1) && !(q.1 + 1 == i && q.2.category == 2))))) : pz_lv ad n (pz_set ls i v) mls := by
  refine ⟨h.2.1, h.1, by rw [pz_set_len]; exact hlen, fun k u hu => ?_⟩
  unfold pz_set at hu
  rw [if_pos hc, List.getElem?_set] at hu
  split at hu
  · split at hu <;> cases hu
  · rename_i hk1
    rw [List.getElem?_set] at hu
    split at hu
    · rename_i hk
      subst hk
      split at hu
      · cases hu
        exact h.2.2 _ List.mem_cons_self
      · cases hu
    · rename_i hk
      refine h.2.2 (k, pz_e ad u) (List.mem_cons_of_mem _ (List.mem_filter.mpr ⟨pz_ll_in hu, ?_⟩))
      have h1 : (k == i) = false := by simpa using fun q => hk q.symm
      have h5 : (k == i + 1) = false := by simpa using fun q => hk1 q.symm
      rw [h1, h5]
      by_cases h2 : k + 1 = i
      · have h3 := pz_np_spec hnp k u h2.symm hu
        have h4 : ((pz_e ad u).category == 2) = false := by rw [pz_e_cat, h3]; rfl
        simp [h4]
      · have h3 : (k + 1 == i) = false := by simpa using h2
        simp [h3]
theorem pz_i2c (x : Int) : ((Int32.ofInt x).toUInt32 % 65536).toInt32 = Int32.ofInt (x % 65536) := by
  refine congrArg UInt32.toInt32 (?_ : _ = UInt32.ofBitVec (BitVec.ofInt 32 (x % 65536)))
  apply UInt32.toNat_inj.mp
  rw [UInt32.toNat_mod]
  show (BitVec.ofInt 32 x).toNat % 65536 = (BitVec.ofInt 32 (x % 65536)).toNat
  rw [BitVec.toNat_ofInt, BitVec.toNat_ofInt]
  omega
theorem pz_iz {x : Int} (h : pz_i x) : Int32.ofInt x = 0 ↔ x = 0 := by
  rw [← Int32.toInt_inj, pz_of h]; rfl
theorem pz_ieq {x y : Int} (hx : pz_i x) (hy : pz_i y) : Int32.ofInt x = Int32.ofInt y ↔ x = y := by
  rw [← Int32.toInt_inj, pz_of hx, pz_of hy]
theorem pz_ilt {x y : Int} (hx : pz_i x) (hy : pz_i y) : Int32.ofInt x < Int32.ofInt y ↔ x < y := by
  rw [Int32.lt_iff_toInt_lt, pz_of hx, pz_of hy]
theorem pz_ile {x y : Int} (hx : pz_i x) (hy : pz_i y) : Int32.ofInt x ≤ Int32.ofInt y ↔ x ≤ y := by
  rw [Int32.le_iff_toInt_le, pz_of hx, pz_of hy]
theorem pz_idiv {x y : Int} (hx : pz_i x) (hy : pz_i y) : Int32.ofInt (x.tdiv y) = Int32.ofInt x / Int32.ofInt y := by
  have h1 := hx.1
  have h2 := hx.2
  have h3 := hy.1
  have h4 := hy.2
  exact Int32.ofInt_tdiv (by show (-2147483648 : Int) ≤ x; omega) (by show x ≤ (2147483647 : Int); omega) (by show (-2147483648 : Int) ≤ y; omega) (by show y ≤ (2147483647 : Int); omega)
theorem pz_irem {x y : Int} (hx : pz_i x) (hy : pz_i y) : Int32.ofInt (x.tmod y) = Int32.ofInt x - Int32.ofInt x / Int32.ofInt y * Int32.ofInt y := by
  rw [irem_eq_mod]
  have h1 := hx.1
  have h2 := hx.2
  have h3 := hy.1
  have h4 := hy.2
  exact Int32.ofInt_tmod (by show (-2147483648 : Int) ≤ x; omega) (by show x ≤ (2147483647 : Int); omega) (by show (-2147483648 : Int) ≤ y; omega) (by show y ≤ (2147483647 : Int); omega)
theorem pz_i2l {x : Int} (hx : pz_i x) : (Int32.ofInt x).toInt64 = Int64.ofInt x := by
  have h1 := hx.1
  have h2 := hx.2
  exact Int32.toInt64_ofInt (by show (-2147483648 : Int) ≤ x; omega) (by show x ≤ (2147483647 : Int); omega)
theorem pz_lcmp {x y : Int} (hx : pz_j x) (hy : pz_j y) : lg_cmp (Int64.ofInt x) (Int64.ofInt y) = Int32.ofInt (if y < x then 1 else if x = y then 0 else -1) := by
  unfold lg_cmp
  have e1 : (Int64.ofInt x > Int64.ofInt y) ↔ y < x := by
    show Int64.ofInt y < Int64.ofInt x ↔ _
    rw [Int64.lt_iff_toInt_lt, pz_lof hx, pz_lof hy]
  have e2 : Int64.ofInt x = Int64.ofInt y ↔ x = y := by
    rw [← Int64.toInt_inj, pz_lof hx, pz_lof hy]
  by_cases h1 : y < x
  · rw [if_pos h1, if_pos (e1.mpr h1)]; rfl
  · rw [if_neg h1, if_neg (fun q => h1 (e1.mp q))]
    by_cases h2 : x = y
    · rw [if_pos h2, if_pos (e2.mpr h2)]; rfl
    · rw [if_neg h2, if_neg (fun q => h2 (e2.mp q))]; rfl
theorem pz_bip {n : Int} (h : -128 ≤ n ∧ n ≤ 127) : (Int8.ofInt n).toInt32 = Int32.ofInt n := by
  apply Int32.toInt_inj.mp
  rw [Int8.toInt_toInt32, Int8.toInt_ofInt_of_le (by omega) (by omega), pz_of ⟨by omega, by omega⟩]
theorem pz_sip {n : Int} (h : -32768 ≤ n ∧ n ≤ 32767) : (Int16.ofInt n).toInt32 = Int32.ofInt n := by
  apply Int32.toInt_inj.mp
  rw [Int16.toInt_toInt32, Int16.toInt_ofInt_of_le (by omega) (by omega), pz_of ⟨by omega, by omega⟩]
theorem pz_e_i (ad : Nat → Nat) (x : Int) : pz_e ad (.inl x) = .int (Int32.ofInt x) := rfl
theorem pz_e_l (ad : Nat → Nat) (x : Int) : pz_e ad (.inr (.inr (.inl x))) = .long (Int64.ofInt x) := rfl
theorem pz_e_f (ad : Nat → Nat) (x : UInt32) : pz_e ad (.inr (.inr (.inr (.inl x)))) = .float x := rfl
theorem pz_e_d (ad : Nat → Nat) (x : UInt64) : pz_e ad (.inr (.inr (.inr (.inr x)))) = .double x := rfl
theorem pz_e_z (ad : Nat → Nat) : pz_e ad (.inr (.inl 0)) = .null := rfl
section PZW
variable {p : Program} {l : Launch} {e : Env} {R : Room} {s : State} {m : MethodId} {args : Array Value} {below : List Frame} {meth : Method} {c : Code} {H : Heap} {locs : List Loc} {cells slots : Nat} {Q : State → Prop}
variable {cc : ByteArray} {pc : Nat} {mls : Array Slot} {ad : Nat → Nat} {n : Nat}
set_option maxHeartbeats 4000000 in
theorem pz_W0 (hx : p.tables.exec = Jvm.exec) (hb : c.code = cc) {ins : Instr} {st st' : List pz_V} (h : pz_pure ins st = some st') (ho : ∀ v ∈ st, pz_o n v) (hd : decode cc pc = .ok (ins, pz_len ins))
    (k : W p l e R s m args below meth c H locs cells slots Q (F0 m (pc + pz_len ins) mls (st'.map (pz_e ad)))) : W p l e R s m args below meth c H locs cells slots Q (F0 m pc mls (st.map (pz_e ad))) := by
  unfold pz_pure at h
  split at h <;> first | cases h | (split at h <;> cases h)
  all_goals ((try simp only [List.mem_cons, forall_eq_or_imp] at ho); simp only [List.map_cons, pz_e_i, pz_e_l, pz_e_f, pz_e_d, pz_e_z, pz_len] at k hd ⊢)
  · exact lv_iconst hx hb hd rfl k
  · exact lv_bipush hx hb hd (pz_bip (by assumption)) k
  · exact lv_sipush hx hb hd (pz_sip (by assumption)) k
  · rename_i z
    exact lv_lconst hx hb hd rfl k
  · exact lv_fconst0 hx hb hd k
  · exact lv_dconst0 hx hb hd k
  · exact lv_null hx hb hd k
  · rw [pz_ofw, Int32.ofInt_add] at k; exact lv_iadd hx hb hd k
  · rw [pz_ofw, Int32.ofInt_sub] at k; exact lv_isub hx hb hd k
  · rw [pz_ofw, Int32.ofInt_mul] at k; exact lv_imul hx hb hd k
  · rename_i hy
    rw [pz_ofw, pz_idiv ho.2.1 ho.1] at k; exact lv_idiv hx hb hd (fun q => hy ((pz_iz ho.1).mp q)) k
  · rename_i hy
    rw [pz_irem ho.2.1 ho.1] at k; exact lv_irem hx hb hd (fun q => hy ((pz_iz ho.1).mp q)) k
  · rw [pz_ofw, Int32.ofInt_neg] at k; exact lv_ineg hx hb hd k
  · rw [Int32.ofInt_toInt] at k; exact lv_iand hx hb hd k
  · rw [Int32.ofInt_toInt] at k; exact lv_ior hx hb hd k
  · rw [Int32.ofInt_toInt] at k; exact lv_ixor hx hb hd k
  · rw [Int32.ofInt_toInt] at k; exact lv_ishl hx hb hd k
  · rw [Int32.ofInt_toInt] at k; exact lv_ishr hx hb hd k
  · rw [Int32.ofInt_toInt] at k; exact lv_iushr hx hb hd rfl k
  · rw [pz_olw, Int64.ofInt_add] at k; exact lv_ladd hx hb hd k
  · rw [pz_olw, Int64.ofInt_mul] at k; exact lv_lmul hx hb hd k
  · exact lv_i2l hx hb hd (pz_i2l ho.1) k
  · exact lv_i2c hx hb hd (pz_i2c _) k
  · exact lv_i2f hx hb hd k
  · exact lv_i2d hx hb hd k
  · exact lv_f2d hx hb hd (by assumption) k
  · exact lv_fdiv hx hb hd (by assumption) k
  · exact lv_ddiv hx hb hd (by assumption) k
  · exact W.lcmp hx hb hd (by rw [pz_lcmp ho.2.1 ho.1]; exact k)
  · rw [Int32.ofInt_toInt] at k; exact lv_fcmp hx hb hd k
  · rw [Int32.ofInt_toInt] at k; exact lv_dcmp hx hb hd k
  · exact lv_dup hx hb hd (by rw [pz_e_cat]; assumption) k
  · exact lv_pop hx hb hd (by rw [pz_e_cat]; assumption) k
  · rename_i hh
    exact lv_dup2_11 hx hb hd (by rw [pz_e_cat]; exact hh.1) (by rw [pz_e_cat]; exact hh.2) k
theorem pz_lv.at {ls : pz_L} (h : pz_lv ad n ls mls) {k : Nat} {v : pz_V} (hk : ls[k]? = some (some v)) : mls[k]? = some (.val (pz_e ad v)) := h.2.2.2 k v hk
set_option maxHeartbeats 4000000 in
theorem pz_W1 (hx : p.tables.exec = Jvm.exec) (hb : c.code = cc) {ins : Instr} {ls ls' : pz_L} {st st' : List pz_V} (h : pz_loc ins ls st = some (ls', st')) (hd : decode cc pc = .ok (ins, pz_len ins)) (hlv : pz_lv ad n ls mls)
    (k : ∀ mls', pz_lv ad n ls' mls' → W p l e R s m args below meth c H locs cells slots Q (F0 m (pc + pz_len ins) mls' (st'.map (pz_e ad)))) : W p l e R s m args below meth c H locs cells slots Q (F0 m pc mls (st.map (pz_e ad))) := by
  unfold pz_loc at h
  split at h
  · -- a load
    rename_i kk i hk
    split at h
    · rename_i v hv
      split at h
      · rename_i hkd
        cases h
        have hm := hlv.at hv
        have k := k mls hlv
        simp only [List.map_cons] at k
        unfold pz_ldk at hk
        split at hk <;> cases hk <;> simp only [pz_len] at hd k <;> rcases v with x | x | x | x | x <;> simp [pz_kd] at hkd <;> simp only [pz_e] at hm k
        · exact lv_iload hx hb hd hm k
        · exact lv_iload_n hx hb hd rfl hm k
        · split at hm
          · rename_i h0; rw [if_pos h0] at k; exact lv_aloadN hx hb hd hm k
          · rename_i h0; rw [if_neg h0] at k; exact lv_aload hx hb hd hm k
        · split at hm
          · rename_i h0; rw [if_pos h0] at k; exact lv_aload_nN hx hb hd rfl hm k
          · rename_i h0; rw [if_neg h0] at k; exact lv_aload_n hx hb hd rfl hm k
        · exact lv_lload hx hb hd hm k
        · exact lv_lload_n hx hb hd rfl hm k
        · exact lv_fload hx hb hd hm k
        · exact lv_fload_n hx hb hd rfl hm k
        · exact lv_dload hx hb hd hm k
        · exact lv_dload_n hx hb hd rfl hm k
      · cases h
    · cases h
  · split at h
    · -- a store
      rename_i kk i hk
      split at h
      · rename_i v st1
        split at h
        · rename_i hh
          obtain ⟨hkd, hi, hnp⟩ := hh
          cases h
          have hlen := hlv.2.2.1
          unfold pz_stk at hk
          simp only [List.map_cons]
          split at hk <;> cases hk <;> simp only [pz_len] at hd k <;> rcases v with x | x | x | x | x <;> simp [pz_kd] at hkd <;> simp only [pz_cat] at hi
          · exact lv_istore hx hb hd hlv.has (by omega) rfl (fun mls' h' => k mls' (pz_lv_set1 rfl hlen hnp h'))
          · exact lv_istore_n hx hb hd rfl hlv.has (by omega) rfl (fun mls' h' => k mls' (pz_lv_set1 rfl hlen hnp h'))
          · by_cases h0 : x = 0
            · subst h0
              exact lv_astoreN hx hb hd hlv.has (by omega) rfl (fun mls' h' => k mls' (pz_lv_set1 (v := .inr (.inl 0)) rfl hlen hnp h'))
            · simp only [pz_e, if_neg h0]
              exact lv_astore hx hb hd hlv.has (by omega) rfl (fun mls' h' => k mls' (pz_lv_set1 (v := .inr (.inl x)) rfl hlen hnp (by simp only [pz_e, if_neg h0]; exact h')))
          · by_cases h0 : x = 0
            · subst h0
              exact lv_astore_nN hx hb hd rfl hlv.has (by omega) rfl (fun mls' h' => k mls' (pz_lv_set1 (v := .inr (.inl 0)) rfl hlen hnp h'))
            · simp only [pz_e, if_neg h0]
              exact lv_astore_n hx hb hd rfl hlv.has (by omega) rfl (fun mls' h' => k mls' (pz_lv_set1 (v := .inr (.inl x)) rfl hlen hnp (by simp only [pz_e, if_neg h0]; exact h')))
          · exact lv_lstore hx hb hd hlv.has (by omega) rfl (fun mls' h' => k mls' (pz_lv_set2 rfl hlen hnp h'))
          · exact lv_lstore_n hx hb hd rfl hlv.has (by omega) rfl (fun mls' h' => k mls' (pz_lv_set2 rfl hlen hnp h'))
          · exact lv_fstore hx hb hd hlv.has (by omega) rfl (fun mls' h' => k mls' (pz_lv_set1 rfl hlen hnp h'))
          · exact lv_fstore_n hx hb hd rfl hlv.has (by omega) rfl (fun mls' h' => k mls' (pz_lv_set1 rfl hlen hnp h'))
          · exact lv_dstore hx hb hd hlv.has (by omega) rfl (fun mls' h' => k mls' (pz_lv_set2 rfl hlen hnp h'))
          · exact lv_dstore_n hx hb hd rfl hlv.has (by omega) rfl (fun mls' h' => k mls' (pz_lv_set2 rfl hlen hnp h'))
        · cases h
      · cases h
    · split at h
      · rename_i i z _ _
        split at h
        · rename_i x hv
          split at h
          · rename_i hnp
            cases h
            have hlen := hlv.2.2.1
            obtain ⟨q, hq⟩ := List.getElem?_of_mem (pz_ll_in (ad := ad) hv)
            have hi : i < ls.length := (List.getElem?_eq_some_iff.mp hv).1
            refine lv_iinc hx hb hd hlv.has hq rfl (by omega) rfl (fun mls' h' => k mls' ?_)
            have h2 := pz_lv_set1 (ad := ad) (v := .inl (pz_w (x + z))) rfl hlen hnp (by simp only [pz_e, pz_ofw, Int32.ofInt_add]; exact h')
            exact h2
          · cases h
        · cases h
      · cases h
end PZW
