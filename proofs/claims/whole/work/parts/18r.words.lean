/-! what the class's questions need -/
theorem q_nth {p : Int → Prop} : ∀ (n : Nat) (i : Int), 0 ≤ i → i < q_cnt p n → ∃ b : Int, 0 ≤ b ∧ b < n ∧ p b ∧ q_cnt p b = i
  | 0, i, h1, h2 => by
    have : q_cnt p ((0 : Nat) : Int) = 0 := rfl
    omega
  | n + 1, i, h1, h2 => by
    rw [show ((n + 1 : Nat) : Int) = (n : Int) + 1 by omega, q_cnt_s (by omega)] at h2
    by_cases g : i < q_cnt p n
    · obtain ⟨b, g1, g2, g3, g4⟩ := q_nth n i h1 g
      exact ⟨b, g1, by omega, g3, g4⟩
    · by_cases e : p n
      · rw [pz_bi_1 e] at h2
        exact ⟨n, by omega, by omega, e, by omega⟩
      · rw [pz_bi_0 e] at h2
        omega
def q_catP (k : Nat → Int) (i b : Int) : Prop := 0 ≤ b ∧ b < k 1 ∧ q_kp k b ∧ q_cnt (q_kp k) b = i
noncomputable def q_cat (k : Nat → Int) (i : Int) : Int := Classical.epsilon (q_catP k i)
theorem q_cat_ok {k : Nat → Int} {i : Int} (hn : 0 ≤ k 1) (h : 0 ≤ i ∧ i < q_cnt (q_kp k) (k 1)) : q_catP k i (q_cat k i) := by
  refine Classical.epsilon_spec (p := q_catP k i) ?_
  obtain ⟨b, g1, g2, g3, g4⟩ := q_nth (p := q_kp k) (k 1).toNat i h.1 (by rw [Int.toNat_of_nonneg hn]; exact h.2)
  exact ⟨b, g1, by omega, g3, g4⟩
theorem q_cat_e {k j c : Nat → Int} {i : Int} (hn : 0 ≤ k 1) (h : 0 ≤ i ∧ i < q_cnt (q_kp k) (k 1)) (hc : q_CK k j c) : c i.toNat = q_cat k i := by
  have h1 := q_cat_ok hn h
  have h2 := hc.2.2 (q_cat k i) h1.1 h1.2.1 h1.2.2.1
  rw [h1.2.2.2] at h2
  exact h2
theorem q_NK_at {k n w d : Nat → Int} {f t : Int} (hk : q_KR k) (h : q_NK k n w d) (hc : q_con k (fun _ => 0)) (hf : 0 ≤ f ∧ f < k 0) (ht : 0 ≤ t ∧ t < k 0) : (d (10 * f + t).toNat = 1000000000 ↔ q_D k (10 * f + t).toNat = 1000000) ∧ (q_D k (10 * f + t).toNat ≠ 1000000 → d (10 * f + t).toNat = q_D k (10 * f + t).toNat) := by
  have h0 := hk.r0
  rw [q_NK_D h hc f t hf.1 hf.2 ht.1 ht.2]
  exact q_N_r (q_dR_D hk hc (10 * f + t).toNat (by omega)).2
theorem q_gi_at {k n w d r : Nat → Int} {f t : Int} (hk : q_KR k) (h : q_NK k n w d) (hc : q_con k (fun _ => 0)) (hf : 0 ≤ f ∧ f < k 0) (ht : 0 ≤ t ∧ t < k 0) : (q_gi (n 0) w (n 0) (q_ri f r) t.toNat = 1000000000 ↔ q_D k (10 * f + t).toNat = 1000000) ∧ (q_D k (10 * f + t).toNat ≠ 1000000 → q_gi (n 0) w (n 0) (q_ri f r) t.toNat = q_D k (10 * f + t).toNat) := by
  have h0 := hk.r0
  rw [h.1, q_gi_D hk hc hf ht h.2.2.1]
  exact q_N_r (q_dR_D hk hc (10 * f + t).toNat (by omega)).2
theorem q_po_at {k n w d : Nat → Int} {f : Int} (hk : q_KR k) (h : q_NK k n w d) (hc : q_con k (fun _ => 0)) (hf : 0 ≤ f ∧ f < k 0) : ∃ p : Nat → Int, q_po (n 0) p w ∧ p f.toNat ≤ 0 := by
  rw [h.1]
  exact q_po_D hk hc hf h.2.2.1
theorem q_RK_at {k m V U : Nat → Int} {f t : Int} (hk : q_KR k) (h : q_RK k m V U) (hc : q_sen k) (hf : 0 ≤ f ∧ f < k 0) (ht : 0 ≤ t ∧ t < k 0) : (V (10 * f + t).toNat = 1000000000 ↔ q_val k (100 * 0 + 10 * f + t).toNat = 1000000) ∧ (q_val k (100 * 0 + 10 * f + t).toNat ≠ 1000000 → V (10 * f + t).toNat = q_val k (100 * 0 + 10 * f + t).toNat) := by
  have h0 := hk.r0
  have h1 := q_N_v (q_vb_val hk hc (100 * 0 + 10 * f + t).toNat (by omega))
  rw [(h.2.2 hc).1 f t hf.1 hf.2 ht.1 ht.2]
  exact ⟨h1.1, h1.2.1⟩
theorem q_al_ka {k : Nat → Int} (h : q_KR k) : q_al (q_ka k) := fun e h1 h2 => by
  rw [q_ka_e h1]
  exact (h.st h1 h2).1
