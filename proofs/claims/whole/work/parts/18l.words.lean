/-! what the class keeps of the plan: the net, reductions, a conflict -/
def q_NK (k n w d : Nat → Int) : Prop := n 0 = k 0 ∧ n 1 = pz_bi (q_con k (fun _ => 0)) ∧ (∃ r : Nat → Int, w = q_lay k (fun _ => 0) r) ∧ (q_con k (fun _ => 0) → q_nD k d (q_dd k (fun _ => 0) (fun _ => 0)) ∧ q_rng 100 d)
noncomputable def q_X0 (k : Nat → Int) : q_X := q_x0 k (fun _ => 0) (fun _ => 0) (fun _ => 0) (fun _ => 0)
def q_sen (k : Nat → Int) : Prop := q_seen k (fun _ => 0) (fun _ => 0) (fun _ => 0) (fun _ => 0)
noncomputable def q_rnd (k : Nat → Int) : Int := q_rds k (fun _ => 0) (fun _ => 0) (fun _ => 0) (fun _ => 0)
noncomputable def q_val (k : Nat → Int) : Nat → Int := (q_zX k (fun _ => 0) (fun _ => 0) (fun _ => 0) (fun _ => 0)).1
def q_RK (k m V U : Nat → Int) : Prop := m 1 = pz_bi (q_sen k) ∧ m 2 = q_rnd k ∧ (q_sen k → q_VU k (q_val k) V U)
def q_CK (k j c : Nat → Int) : Prop := ¬ q_con k (fun _ => 0) ∧ j 3 = q_cnt (q_kp k) (k 1) ∧ q_cfl k c (k 1)
def q_CI (k o n w d m V U j c : Nat → Int) : Prop := (o 7 = 0 ∨ (o 7 = 1 ∧ q_NK k n w d)) ∧ (o 8 = 0 ∨ (o 8 = 1 ∧ q_RK k m V U)) ∧ (o 9 = 0 ∨ (o 9 = 1 ∧ q_CK k j c))
/-- the class's state ahead of the round n -/
def q_RL (k : Nat → Int) (n : Int) (V U : Nat → Int) : Prop := q_VU k (q_rx k n (q_X0 k)).1 V U ∧ q_rng 100 V ∧ q_rng 30 U
def q_fn (k : Nat → Int) (n : Int) : Prop := ∀ i : Int, 0 ≤ i → i < n → q_fi k (q_rx k i (q_X0 k)) ∧ q_ha k (q_rx k i (q_X0 k))
theorem q_lay_rng {k lf r u : Nat → Int} (h : q_KR k) (hc : q_con k lf) : q_rng 100 (q_cls (k 0) (q_lay k lf r) u) := sorry
theorem q_RL_0 {k d V U : Nat → Int} (h : q_KR k) (hc : q_con k (fun _ => 0)) (hd : q_nD k d (q_dd k (fun _ => 0) (fun _ => 0))) (hr : q_rng 100 d) : q_RL k 0 (q_cp 100 d V) (q_tu k U) := sorry
/-- a round: what comes out, whether it changed something, whether no way is below 0 -/
theorem q_RL_s {k V U V1 U1 V2 U2 : Nat → Int} {n : Int} (h : q_KR k) (hc : q_con k (fun _ => 0)) (hn : 0 ≤ n ∧ n ≤ 59) (hf : q_fn k n) (hr : q_RL k n V U) : q_RL k (n + 1) (q_cp 100 (q_rn k V U (q_cp 100 V V1, q_cp 30 U U1)).1 V2) (q_cp 30 (q_rn k V U (q_cp 100 V V1, q_cp 30 U U1)).2 U2) := sorry
theorem q_RL_m {k V U V1 U1 m m9 : Nat → Int} {n : Int} (h : q_KR k) (hc : q_con k (fun _ => 0)) (hn : 0 ≤ n ∧ n ≤ 59) (hf : q_fn k n) (hr : q_RL k n V U) (hm : q_mvP m (q_cp 100 V V1) (q_cp 30 U U1) (q_rn k V U (q_cp 100 V V1, q_cp 30 U U1)).1 (q_rn k V U (q_cp 100 V V1, q_cp 30 U U1)).2 m9) : m9 3 = pz_bi (q_ha k (q_rx k n (q_X0 k))) := sorry
theorem q_RL_c {k V U w d : Nat → Int} {n : Int} (h : q_KR k) (hc : q_con k (fun _ => 0)) (hn : 0 ≤ n ∧ n ≤ 59) (hf : q_fn k n) (hr : q_RL k (n + 1) V U) : q_cw (k 0) (q_cp 100 (q_wz k V U w) d) := sorry
theorem q_RL_w {k V U w d : Nat → Int} {n : Int} (h : q_KR k) (hc : q_con k (fun _ => 0)) (hn : 0 ≤ n ∧ n ≤ 59) (hf : q_fn k n) (hr : q_RL k (n + 1) V U) : q_snd (k 0) (q_wz k V U w) d ↔ q_fi k (q_rx k n (q_X0 k)) := sorry
theorem q_last_eq {k : Nat → Int} {x : q_X} {m m' : Int} (h : q_last k x m) (h' : q_last k x m') : m = m' := by
  obtain ⟨h1, h2, h3⟩ := h
  obtain ⟨g1, g2, g3⟩ := h'
  rcases Int.lt_trichotomy m m' with h | h | h
  · exact absurd ⟨(g2 m h1.1 h).1, (g2 m h1.1 h).2, by omega⟩ h3
  · exact h
  · exact absurd ⟨(h2 m' g1.1 h).1, (h2 m' g1.1 h).2, by omega⟩ g3
theorem q_m_is {k : Nat → Int} {x : q_X} {m : Int} (h : q_last k x m) : q_m k x = m := q_last_eq q_m_ok h
theorem q_fn_s {k : Nat → Int} {n : Int} (hf : q_fn k n) (h : q_fi k (q_rx k n (q_X0 k)) ∧ q_ha k (q_rx k n (q_X0 k))) : q_fn k (n + 1) := by
  intro i h1 h2
  by_cases g : i = n
  · rw [g]; exact h
  · exact hf i h1 (by omega)
/-- the end of the rounds -/
theorem q_end {k V U m : Nat → Int} {n : Int} (hc : q_con k (fun _ => 0)) (hn : 0 ≤ n ∧ n ≤ 59) (hf : q_fn k n) (hl : ¬ (q_fi k (q_rx k n (q_X0 k)) ∧ q_ha k (q_rx k n (q_X0 k)) ∧ n < 59)) (hr : q_RL k (n + 1) V U) (h1 : m 1 = pz_bi (q_fi k (q_rx k n (q_X0 k)) ∧ ¬ (q_ha k (q_rx k n (q_X0 k)) ∧ n = 59))) (h2 : m 2 = n + pz_bi (q_ha k (q_rx k n (q_X0 k)))) : q_RK k m V U := by
  have hm : q_m k (q_X0 k) = n := q_m_is ⟨hn, hf, hl⟩
  have e : q_m k (q_x0 k (fun _ => 0) (fun _ => 0) (fun _ => 0) (fun _ => 0)) = n := hm
  refine ⟨?_, ?_, ?_⟩
  · rw [h1]
    refine pz_bi_iff ?_
    unfold q_sen q_seen
    rw [e]
    exact ⟨fun q => ⟨hc, q⟩, fun q => q.2⟩
  · rw [h2]
    unfold q_rnd q_rds
    rw [q_if_t hc, e]
    rfl
  · intro _
    unfold q_val q_zX
    rw [q_if_t hc, e]
    exact hr.1
theorem q_end0 {k V U m : Nat → Int} (hc : ¬ q_con k (fun _ => 0)) (h1 : m 1 = 0) (h2 : m 2 = 0) : q_RK k m V U := by
  refine ⟨?_, ?_, ?_⟩
  · rw [h1]; exact pz_bi_f (fun q => hc q.1)
  · rw [h2]; unfold q_rnd q_rds; rw [q_if_f hc]
  · intro q; exact absurd q.1 hc
theorem q_bz {p : Prop} {z : Int} (e : z = pz_bi p) (h : z ≠ 0) : p := pz_bi_ne (by rw [← e]; exact h)
theorem q_bzn {p : Prop} {z : Int} (e : z = pz_bi p) (h : z = 0) : ¬ p := pz_bi_eq (by rw [← e]; exact h)
