/-! the class's caches -/
theorem pz_bi_p1 {p : Prop} (h : p) : pz_bi p ≠ 0 := by rw [pz_bi_1 h]; decide
theorem q_NK_mk {k r u n : Nat → Int} (hk : q_KR k) : q_NK k (pz_up (pz_up n 0 (k 0)) 1 (pz_bi (q_snd (k 0) (q_lay k (fun _ => 0) r) u))) (q_lay k (fun _ => 0) r) (q_cls (k 0) (q_lay k (fun _ => 0) r) u) :=
  ⟨rfl, by rw [pz_up_eq]; exact pz_bi_iff (q_lay_con hk), ⟨r, rfl⟩, fun hc => ⟨q_lay_dd hk hc, q_lay_rng hk hc⟩⟩
theorem q_CI_n {k o n w d m V U j c : Nat → Int} (h : q_CI k o n w d m V U j c) (h7 : o 7 ≠ 0) : q_NK k n w d := by
  rcases h.1 with e | e
  · exact absurd e h7
  · exact e.2
theorem q_CI_r {k o n w d m V U j c : Nat → Int} (h : q_CI k o n w d m V U j c) (h7 : o 8 ≠ 0) : q_RK k m V U := by
  rcases h.2.1 with e | e
  · exact absurd e h7
  · exact e.2
theorem q_CI_c {k o n w d m V U j c : Nat → Int} (h : q_CI k o n w d m V U j c) (h7 : o 9 ≠ 0) : q_CK k j c := by
  rcases h.2.2 with e | e
  · exact absurd e h7
  · exact e.2
theorem q_CI_nk {k o n w d m V U j c n' w' d' : Nat → Int} (h : q_CI k o n w d m V U j c) (g : q_NK k n' w' d') : q_CI k (pz_up o 7 1) n' w' d' m V U j c :=
  ⟨Or.inr ⟨pz_up_eq, g⟩, by rw [pz_up_ne (by decide)]; exact h.2.1, by rw [pz_up_ne (by decide)]; exact h.2.2⟩
theorem q_CI_rk {k o n w d m V U j c m' V' U' : Nat → Int} (h : q_CI k o n w d m V U j c) (g : q_RK k m' V' U') : q_CI k (pz_up o 8 1) n w d m' V' U' j c :=
  ⟨by rw [pz_up_ne (by decide)]; exact h.1, Or.inr ⟨pz_up_eq, g⟩, by rw [pz_up_ne (by decide)]; exact h.2.2⟩
theorem q_CI_ck {k o n w d m V U j c j' c' : Nat → Int} (h : q_CI k o n w d m V U j c) (g : q_CK k j' c') : q_CI k (pz_up o 9 1) n w d m V U j' c' :=
  ⟨by rw [pz_up_ne (by decide)]; exact h.1, by rw [pz_up_ne (by decide)]; exact h.2.1, Or.inr ⟨pz_up_eq, g⟩⟩
theorem q_CI_0 {k o n w d m V U j c : Nat → Int} : q_CI k (pz_up (pz_up (pz_up o 7 0) 8 0) 9 0) n w d m V U j c := ⟨Or.inl rfl, Or.inl rfl, Or.inl rfl⟩
noncomputable def q_D (k : Nat → Int) : Nat → Int := q_dd k (fun _ => 0) (fun _ => 0)
theorem q_dR_D {k : Nat → Int} (h : q_KR k) (hc : q_con k (fun _ => 0)) : q_dR (q_D k) := fun _ hj => q_dd_r h hc hj
theorem q_dX_D {k : Nat → Int} (h : q_KR k) (hc : q_con k (fun _ => 0)) : q_dX k (q_D k) := sorry
theorem q_NK_D {k n w d : Nat → Int} (h : q_NK k n w d) (hc : q_con k (fun _ => 0)) : q_nD k d (q_D k) := (h.2.2.2 hc).1
theorem q_vb_val {k : Nat → Int} (h : q_KR k) (hc : q_sen k) : q_vb (q_val k) := q_zv_r h hc
/-- potentials: the distances from f, raised by the greatest to where no way leads -/
theorem q_po_D {k w : Nat → Int} {f : Int} (h : q_KR k) (hc : q_con k (fun _ => 0)) (hf : 0 ≤ f ∧ f < k 0) (hw : ∃ r : Nat → Int, w = q_lay k (fun _ => 0) r) : ∃ p : Nat → Int, q_po (k 0) p w ∧ p f.toNat ≤ 0 := sorry
/-- distances by rounds are the distances -/
theorem q_gi_D {k w r : Nat → Int} {f t : Int} (h : q_KR k) (hc : q_con k (fun _ => 0)) (hf : 0 ≤ f ∧ f < k 0) (ht : 0 ≤ t ∧ t < k 0) (hw : ∃ r : Nat → Int, w = q_lay k (fun _ => 0) r) : q_gi (k 0) w (k 0) (q_ri f r) t.toNat = q_N (q_D k (10 * f + t).toNat) := sorry
