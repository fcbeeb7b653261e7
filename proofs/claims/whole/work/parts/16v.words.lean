/-! the reductions, round after round: values, values ahead, the square -/
def q_v0 (d v : Nat → Int) : Nat → Int := fun j => if j < 400 then (if j < 100 then d j else 1000000) else v j
noncomputable def q_upS (k : Nat → Int) (s : Int) (v : Nat → Int) : Nat → Int := q_if (q_sta k (k (212 + 4 * s + 1).toNat)) v (pz_up v (100 * (s + 1) + 10 * k (212 + 4 * s + 1).toNat + k (212 + 4 * s).toNat).toNat (-(k (212 + 4 * s + 3).toNat)))
noncomputable def q_vi (k d v : Nat → Int) : Nat → Int := q_fr (q_upS k) 0 (k 2) (q_v0 d v)
abbrev q_X : Type := (Nat → Int) × ((Nat → Int) × (Nat → Int))
noncomputable def q_rx1 (k : Nat → Int) (x : q_X) : q_X := (q_rd k (q_c4 x.1 x.2.1) x.1, q_c4 x.1 x.2.1, q_cg (q_ir k (q_rd k (q_c4 x.1 x.2.1) x.1) x.2.2))
noncomputable def q_rx (k : Nat → Int) (n : Int) (x : q_X) : q_X := q_fr (fun _ => q_rx1 k) 0 n x
def q_fi (k : Nat → Int) (x : q_X) : Prop := q_ok (q_ir k (q_rd k (q_c4 x.1 x.2.1) x.1) x.2.2)
def q_ha (k : Nat → Int) (x : q_X) : Prop := q_hc (q_rd k (q_c4 x.1 x.2.1) x.1) (q_c4 x.1 x.2.1)
theorem q_rx_s {k v a g : Nat → Int} {n : Int} {x : q_X} (hn : 0 ≤ n) (hx : (v, a, g) = q_rx k n x) : (q_rd k (q_c4 v a) v, q_c4 v a, q_cg (q_ir k (q_rd k (q_c4 v a) v) g)) = q_rx k (n + 1) x := by
  unfold q_rx
  rw [q_fr_s hn]
  show _ = q_rx1 k (q_rx k n x)
  rw [← hx]
  rfl
/-- a last round: before it each one was fine and changed something -/
def q_last (k : Nat → Int) (x : q_X) (m : Int) : Prop := (0 ≤ m ∧ m ≤ 59) ∧ (∀ i : Int, 0 ≤ i → i < m → q_fi k (q_rx k i x) ∧ q_ha k (q_rx k i x)) ∧ ¬ (q_fi k (q_rx k m x) ∧ q_ha k (q_rx k m x) ∧ m < 59)
def q_rB (k : Nat → Int) (x : q_X) (m : Int) : Prop := ∀ i : Int, 0 ≤ i → i ≤ m → q_vb (q_rx k i x).1 ∧ q_cb (q_ir k (q_rx k (i + 1) x).1 (q_rx k i x).2.2)
theorem q_last_go {k v a g : Nat → Int} {n m : Int} {x : q_X} (hl : q_last k x m) (hn : 0 ≤ n ∧ n ≤ m) (hx : (v, a, g) = q_rx k n x) (h1 : q_ok (q_ir k (q_rd k (q_c4 v a) v) g)) (h2 : q_hc (q_rd k (q_c4 v a) v) (q_c4 v a)) (h3 : n + 1 < 60) : n < m := by
  obtain ⟨-, -, h⟩ := hl
  rcases Int.lt_or_le n m with hq | hq
  · exact hq
  · exfalso
    have hq : n = m := by omega
    subst hq
    apply h
    rw [← hx]
    exact ⟨h1, h2, by omega⟩
theorem q_last_end {k v a g : Nat → Int} {n m : Int} {x : q_X} (hl : q_last k x m) (hn : 0 ≤ n ∧ n ≤ m) (hx : (v, a, g) = q_rx k n x) (h : ¬ (q_ok (q_ir k (q_rd k (q_c4 v a) v) g) ∧ q_hc (q_rd k (q_c4 v a) v) (q_c4 v a) ∧ n + 1 < 60)) : n = m := by
  obtain ⟨h0, h1, -⟩ := hl
  rcases Int.lt_or_le n m with hq | hq
  · exfalso
    have h2 := h1 n hn.1 hq
    rw [← hx] at h2
    exact h ⟨h2.1, h2.2, by omega⟩
  · omega
theorem q_rB_v {k v a g : Nat → Int} {n m : Int} {x : q_X} (hB : q_rB k x m) (hn : 0 ≤ n ∧ n ≤ m) (hx : (v, a, g) = q_rx k n x) : q_vb v ∧ q_cb (q_ir k (q_rd k (q_c4 v a) v) g) := by
  have h := hB n hn.1 hn.2
  rw [← q_rx_s hn.1 hx, ← hx] at h
  exact h
/-- the fields behind: rounds, fine -/
noncomputable def q_rf (k : Nat → Int) (x : q_X) (m : Int) (w : Nat → Int) : Nat → Int := pz_up (pz_up w 8 (m + pz_bi (q_ha k (q_rx k m x)))) 7 (pz_bi (q_fi k (q_rx k m x) ∧ ¬ (q_ha k (q_rx k m x) ∧ m = 59)))
theorem q_w7 {w0 w : Nat → Int} {n p q r : Int} (hw : w = pz_up (pz_up w0 8 n) 7 r) : pz_up (pz_up w 8 p) 7 q = pz_up (pz_up w0 8 p) 7 q := by
  funext j
  rw [hw]
  simp only [pz_up_at]
  (repeat' split) <;> rfl
theorem q_w77 {w : Nat → Int} {p q r : Int} : pz_up (pz_up (pz_up w 8 p) 7 q) 7 r = pz_up (pz_up w 8 p) 7 r := by
  funext j
  simp only [pz_up_at]
  (repeat' split) <;> rfl
section QRF
variable {k v a g w0 w : Nat → Int} {n m : Int} {x : q_X}
theorem q_rf_e (hl : q_last k x m) (hn : 0 ≤ n ∧ n ≤ m) (hx : (v, a, g) = q_rx k n x) (h : ¬ (q_ok (q_ir k (q_rd k (q_c4 v a) v) g) ∧ q_hc (q_rd k (q_c4 v a) v) (q_c4 v a) ∧ n + 1 < 60)) :
    q_rf k x m w0 = pz_up (pz_up w0 8 (n + pz_bi (q_hc (q_rd k (q_c4 v a) v) (q_c4 v a)))) 7 (pz_bi (q_ok (q_ir k (q_rd k (q_c4 v a) v) g) ∧ ¬ (q_hc (q_rd k (q_c4 v a) v) (q_c4 v a) ∧ n = 59))) := by
  have hq := q_last_end hl hn hx h
  subst hq
  unfold q_rf q_ha q_fi
  rw [← hx]
theorem q_rf_1 (hl : q_last k x m) (hn : 0 ≤ n ∧ n ≤ m) (hx : (v, a, g) = q_rx k n x) (hw : w = pz_up (pz_up w0 8 n) 7 1) (hf : ¬ q_ok (q_ir k (q_rd k (q_c4 v a) v) g)) (hh : q_hc (q_rd k (q_c4 v a) v) (q_c4 v a)) :
    pz_up (pz_up w 8 (w 8 + 1)) 7 (pz_bi (q_ok (q_ir k (q_rd k (q_c4 v a) v) g))) = q_rf k x m w0 := by
  have hw8 : w 8 = n := by rw [hw]; rfl
  rw [q_rf_e hl hn hx (fun q => hf q.1), q_w7 hw, hw8, pz_bi_1 hh, pz_bi_0 hf, pz_bi_0 (fun q => hf q.1)]
theorem q_rf_2 (hl : q_last k x m) (hn : 0 ≤ n ∧ n ≤ m) (hx : (v, a, g) = q_rx k n x) (hw : w = pz_up (pz_up w0 8 n) 7 1) (hh : ¬ q_hc (q_rd k (q_c4 v a) v) (q_c4 v a)) :
    pz_up (pz_up w 8 (w 8 + 0)) 7 (pz_bi (q_ok (q_ir k (q_rd k (q_c4 v a) v) g))) = q_rf k x m w0 := by
  have hw8 : w 8 = n := by rw [hw]; rfl
  rw [q_rf_e hl hn hx (fun q => hh q.2.1), q_w7 hw, hw8, pz_bi_0 hh]
  congr 1
  exact pz_bi_iff ⟨fun q => ⟨q, fun p => hh p.1⟩, fun q => q.1⟩
theorem q_rf_4 (hl : q_last k x m) (hn : 0 ≤ n ∧ n ≤ m) (hx : (v, a, g) = q_rx k n x) (hw : w = pz_up (pz_up w0 8 n) 7 1) (hh : q_hc (q_rd k (q_c4 v a) v) (q_c4 v a)) (h60 : ¬ (w 8 + 1 < 60)) :
    pz_up (pz_up (pz_up w 8 (w 8 + 1)) 7 (pz_bi (q_ok (q_ir k (q_rd k (q_c4 v a) v) g)))) 7 0 = q_rf k x m w0 := by
  have hw8 : w 8 = n := by rw [hw]; rfl
  have hm := hl.1.2
  rw [hw8] at h60
  rw [q_rf_e hl hn hx (fun q => h60 q.2.2), q_w77, q_w7 hw, hw8, pz_bi_1 hh, pz_bi_0 (fun q => q.2 ⟨hh, by omega⟩)]
theorem q_rx_e (hl : q_last k x m) (hn : 0 ≤ n ∧ n ≤ m) (hx : (v, a, g) = q_rx k n x) (h : ¬ (q_ok (q_ir k (q_rd k (q_c4 v a) v) g) ∧ q_hc (q_rd k (q_c4 v a) v) (q_c4 v a) ∧ n + 1 < 60)) :
    (q_rd k (q_c4 v a) v, q_c4 v a, q_cg (q_ir k (q_rd k (q_c4 v a) v) g)) = q_rx k (m + 1) x := by
  rw [q_rx_s hn.1 hx, q_last_end hl hn hx h]
end QRF
