/-! words and mathematics, each behind what it wants: chunk 18 -/
section RLS
variable {k V U : Nat → Int} {n : Int}
theorem m_rx1 (hn : 0 ≤ n) : (q_rx k (n + 1) (q_X0 k)).1 = q_rd k (q_c4 (q_rx k n (q_X0 k)).1 (q_rx k n (q_X0 k)).2.1) (q_rx k n (q_X0 k)).1 := by
  rw [m_rx_s hn]
  rfl
theorem m_Jn (h : q_KR k) (hc : q_con k (fun _ => 0)) (hn : 0 ≤ n ∧ n ≤ 59) (hf : q_fn k n) : m_J k (q_dd k (fun _ => 0) (fun _ => 0)) 5400 (5400 + 5400 * n) (q_rx k n (q_X0 k)).1 ∧ m_J k (q_dd k (fun _ => 0) (fun _ => 0)) 10800 (5400 + 5400 * (n + 1)) (q_rx k (n + 1) (q_X0 k)).1 := by
  have J := m_J_all (g := fun _ => 0) (v := fun _ => 0) (a := fun _ => 0) h hc n.toNat (by omega) (fun i' g1 g2 => (hf i' g1 (by omega)).1)
  rw [Int.toNat_of_nonneg hn.1] at J
  exact J
theorem m_RL_s {V1 U1 V2 U2 : Nat → Int} (h : q_KR k) (hc : q_con k (fun _ => 0)) (hn : 0 ≤ n ∧ n ≤ 59) (hf : q_fn k n) (hr : q_RL k n V U) : q_RL k (n + 1) (q_cp 100 (q_rn k V U (q_cp 100 V V1, q_cp 30 U U1)).1 V2) (q_cp 30 (q_rn k V U (q_cp 100 V V1, q_cp 30 U U1)).2 U2) := by
  have h0 := h.r0
  have hD := m_DF_dd (g := fun _ => 0) h hc
  have J := m_Jn h hc hn hf
  have mv := m_rd_ml h (m_c4 (v := (q_rx k n (q_X0 k)).1) (a := (q_rx k n (q_X0 k)).2.1))
  rw [← m_rx1 hn.1] at mv
  have mX := m_rn_V (k := k) (V := V) (U := U) (x := (q_cp 100 V V1, q_cp 30 U U1))
  have mY := m_rn_U (k := k) (V := V) (U := U) (x := (q_cp 100 V V1, q_cp 30 U U1))
  have L := m_lock h hD (by omega) J.1 hr.1 mv mX mY (fun n hn => q_cp_full hn) (fun n hn => q_cp_full hn)
  refine ⟨⟨?_, ?_⟩, ?_, ?_⟩
  · intro i j i1 i2 j1 j2
    rw [q_cp_full (by omega)]
    exact L.1 i j i1 i2 j1 j2
  · intro s e s1 s2 e1 e2
    rw [q_cp_full (by omega)]
    exact L.2 s e s1 s2 e1 e2
  · intro j hj
    rw [q_cp_full hj]
    rcases (mX j).2.2 with e | e
    · rw [e]
      show -1000000000 ≤ q_cp 100 V V1 j ∧ q_cp 100 V V1 j ≤ 1000000000
      rw [q_cp_full hj]
      exact hr.2.1 j hj
    · have c := m_cV1 h hD (by omega) J.1 hr.1 e
      omega
  · intro j hj
    rw [q_cp_full hj]
    rcases (mY j).2.2 with e | e
    · rw [e]
      show -1000000000 ≤ q_cp 30 U U1 j ∧ q_cp 30 U U1 j ≤ 1000000000
      rw [q_cp_full hj]
      exact hr.2.2 j hj
    · obtain ⟨s9, i9, c1, c2, c3, c4, c5, c6⟩ := m_cU1 h hD (by omega) J.1 hr.1 e
      omega
theorem m_N_ne {x y : Int} (h : x < y) (hy : y ≤ 1000000) : q_N x < q_N y := by
  unfold q_N
  split <;> split <;> omega
theorem m_RL_m {V1 U1 m m9 : Nat → Int} (h : q_KR k) (hc : q_con k (fun _ => 0)) (hn : 0 ≤ n ∧ n ≤ 59) (hf : q_fn k n) (hr : q_RL k n V U) (hm : q_mvP m (q_cp 100 V V1) (q_cp 30 U U1) (q_rn k V U (q_cp 100 V V1, q_cp 30 U U1)).1 (q_rn k V U (q_cp 100 V V1, q_cp 30 U U1)).2 m9) : m9 3 = pz_bi (q_ha k (q_rx k n (q_X0 k))) := by
  have h0 := h.r0
  have hD := m_DF_dd (g := fun _ => 0) h hc
  have J := m_Jn h hc hn hf
  have vb := m_J_vb h hD (by omega) J.1
  have mv := m_rd_ml h (m_c4 (v := (q_rx k n (q_X0 k)).1) (a := (q_rx k n (q_X0 k)).2.1))
  have mX := m_rn_V (k := k) (V := V) (U := U) (x := (q_cp 100 V V1, q_cp 30 U U1))
  have mY := m_rn_U (k := k) (V := V) (U := U) (x := (q_cp 100 V V1, q_cp 30 U U1))
  have L := m_lock h hD (by omega) J.1 hr.1 mv mX mY (fun n hn => q_cp_full hn) (fun n hn => q_cp_full hn)
  have J2 := J.2
  rw [m_rx1 hn.1] at J2
  obtain ⟨p1, p2, p3, p4, p5⟩ := hm
  have iff : (m9 3 = 1) ↔ q_ha k (q_rx k n (q_X0 k)) := by
    constructor
    · intro q
      obtain ⟨x, hx⟩ := p4 q
      rcases hx with hx | hx
      · rcases (mX x).2.2 with e | e
        · exfalso
          have e' : (q_rn k V U (q_cp 100 V V1, q_cp 30 U U1)).1 x = q_cp 100 V V1 x := e
          omega
        · obtain ⟨⟨i, j, hi, hj, ex⟩, -⟩ := m_cV1 h hD (by omega) J.1 hr.1 e
          refine ⟨10 * i + j, by omega, by omega, ?_⟩
          intro eq
          rw [show q_c4 (q_rx k n (q_X0 k)).1 (q_rx k n (q_X0 k)).2.1 (10 * i + j).toNat = (q_rx k n (q_X0 k)).1 (10 * i + j).toNat from m_c4 _ (by omega)] at eq
          have l1 := L.1 i j hi.1 hi.2 hj.1 hj.2
          have l2 := hr.1.1 i j hi.1 hi.2 hj.1 hj.2
          rw [m_z0] at l1 l2
          rw [eq] at l1
          rw [ex, q_cp_full (by omega)] at hx
          omega
      · rcases (mY x).2.2 with e | e
        · exfalso
          have e' : (q_rn k V U (q_cp 100 V V1, q_cp 30 U U1)).2 x = q_cp 30 U U1 x := e
          omega
        · obtain ⟨s, i, hs, hi, ex, -⟩ := m_cU1 h hD (by omega) J.1 hr.1 e
          have sp := h.sp hs.1 hs.2
          refine ⟨100 * (s + 1) + 10 * i + k (212 + 4 * s).toNat, by omega, by omega, ?_⟩
          intro eq
          rw [show q_c4 (q_rx k n (q_X0 k)).1 (q_rx k n (q_X0 k)).2.1 (100 * (s + 1) + 10 * i + k (212 + 4 * s).toNat).toNat = (q_rx k n (q_X0 k)).1 (100 * (s + 1) + 10 * i + k (212 + 4 * s).toNat).toNat from m_c4 _ (by omega)] at eq
          have l1 := L.2 s i hs.1 hs.2 hi.1 hi.2
          have l2 := hr.1.2 s i hs.1 hs.2 hi.1 hi.2
          rw [eq] at l1
          rw [ex, q_cp_full (by omega)] at hx
          omega
    · rintro ⟨x, x1, x2, hx⟩
      rcases p1 with z | z
      · exfalso
        obtain ⟨e1, e2⟩ := p2 z
        apply hx
        rw [show q_c4 (q_rx k n (q_X0 k)).1 (q_rx k n (q_X0 k)).2.1 x.toNat = (q_rx k n (q_X0 k)).1 x.toNat from m_c4 _ (by omega)]
        refine Classical.byContradiction (fun ne => ?_)
        have le := (mv x.toNat).1
        have vx := vb x.toNat (by omega)
        by_cases c : x < 100
        · have ex : x.toNat = (10 * ((x.toNat / 10 : Nat) : Int) + ((x.toNat % 10 : Nat) : Int)).toNat := by omega
          have f := J2.1 ((x.toNat / 10 : Nat) : Int) ((x.toNat % 10 : Nat) : Int) (by omega) (by omega) (by omega) (by omega)
          rw [← ex] at f
          by_cases g : ((x.toNat / 10 : Nat) : Int) < k 0 ∧ ((x.toNat % 10 : Nat) : Int) < k 0
          · have l1 := L.1 ((x.toNat / 10 : Nat) : Int) ((x.toNat % 10 : Nat) : Int) (by omega) g.1 (by omega) g.2
            have l2 := hr.1.1 ((x.toNat / 10 : Nat) : Int) ((x.toNat % 10 : Nat) : Int) (by omega) g.1 (by omega) g.2
            rw [m_z0, ← ex] at l1 l2
            have lt := m_N_ne (x := q_rd k (q_c4 (q_rx k n (q_X0 k)).1 (q_rx k n (q_X0 k)).2.1) (q_rx k n (q_X0 k)).1 x.toNat) (y := (q_rx k n (q_X0 k)).1 x.toNat) (by omega) (by omega)
            have e3 := congrFun e1 x.toNat
            rw [q_cp_full (by omega)] at e3
            omega
          · have o := hD.2.2.2 ((x.toNat / 10 : Nat) : Int) ((x.toNat % 10 : Nat) : Int) (by omega) (by omega) (by omega) (by omega) (by omega)
            rw [← ex] at o
            by_cases d : ((x.toNat / 10 : Nat) : Int) = ((x.toNat % 10 : Nat) : Int)
            · have d1 := J2.2.1 ((x.toNat / 10 : Nat) : Int) (by omega) (by omega)
              have d2 := J.1.2.1 ((x.toNat / 10 : Nat) : Int) (by omega) (by omega)
              rw [show (10 * ((x.toNat / 10 : Nat) : Int) + ((x.toNat / 10 : Nat) : Int)).toNat = x.toNat by omega] at d1 d2
              omega
            · rw [if_neg d] at o
              have := (f.2 (by omega)).1
              omega
        · have ex : x.toNat = (100 * ((x.toNat / 100 : Nat) - 1 + 1 : Int) + 10 * ((x.toNat % 100 / 10 : Nat) : Int) + ((x.toNat % 10 : Nat) : Int)).toNat := by omega
          rcases J2.2.2.1 ((x.toNat / 100 : Nat) - 1) ((x.toNat % 100 / 10 : Nat) : Int) ((x.toNat % 10 : Nat) : Int) (by omega) (by omega) (by omega) (by omega) (by omega) (by omega) with e | ⟨⟨q1, q2, q3⟩, q4, q5, q6⟩
          · rw [← ex] at e
            omega
          · have sp := h.sp (s := (x.toNat / 100 : Nat) - 1) (by omega) q1
            have i2 : ((x.toNat % 100 / 10 : Nat) : Int) < k 0 := by
              rcases Int.lt_or_le ((x.toNat % 100 / 10 : Nat) : Int) (k 0) with g | g
              · exact g
              · have o := hD.2.2.2 ((x.toNat % 100 / 10 : Nat) : Int) (k (212 + 4 * (((x.toNat / 100 : Nat) : Int) - 1) + 1).toNat) (by omega) (by omega) (by omega) (by omega) (Or.inl g)
                rw [if_neg (by omega)] at o
                omega
            have l1 := L.2 ((x.toNat / 100 : Nat) - 1) ((x.toNat % 100 / 10 : Nat) : Int) (by omega) q1 (by omega) i2
            have l2 := hr.1.2 ((x.toNat / 100 : Nat) - 1) ((x.toNat % 100 / 10 : Nat) : Int) (by omega) q1 (by omega) i2
            rw [← q3, ← ex] at l1 l2
            have lt := m_N_ne (x := q_rd k (q_c4 (q_rx k n (q_X0 k)).1 (q_rx k n (q_X0 k)).2.1) (q_rx k n (q_X0 k)).1 x.toNat) (y := (q_rx k n (q_X0 k)).1 x.toNat) (by omega) (by omega)
            have e3 := congrFun e2 (10 * (((x.toNat / 100 : Nat) : Int) - 1) + ((x.toNat % 100 / 10 : Nat) : Int)).toNat
            rw [q_cp_full (by omega)] at e3
            omega
      · exact z
  by_cases g : q_ha k (q_rx k n (q_X0 k))
  · rw [pz_bi_1 g]; exact iff.mpr g
  · rw [pz_bi_0 g]
    rcases p1 with z | z
    · exact z
    · exact absurd (iff.mp z) g
theorem m_RL_c {w d : Nat → Int} (h : q_KR k) (hc : q_con k (fun _ => 0)) (hn : 0 ≤ n ∧ n ≤ 59) (hf : q_fn k n) (hr : q_RL k (n + 1) V U) : q_cw (k 0) (q_cp 100 (q_wz k V U w) d) := by
  have h0 := h.r0
  have hD := m_DF_dd (g := fun _ => 0) h hc
  have J := m_Jn h hc hn hf
  exact m_cw3 (by omega) hD (A := 5400 + 5400 * (n + 1)) (by omega) (m_wz_R3 (g := fun _ => 0) h hD (m_DS_dd h hc) (by omega) J.2 hr.1)
theorem m_RL_w {w d : Nat → Int} (h : q_KR k) (hc : q_con k (fun _ => 0)) (hn : 0 ≤ n ∧ n ≤ 59) (hf : q_fn k n) (hr : q_RL k (n + 1) V U) : q_snd (k 0) (q_wz k V U w) d ↔ q_fi k (q_rx k n (q_X0 k)) := by
  have h0 := h.r0
  have hD := m_DF_dd (g := fun _ => 0) h hc
  have J := m_Jn h hc hn hf
  have s := m_snd_ok3 (u := d) (by omega) hD (A := 5400 + 5400 * (n + 1)) (by omega) (m_wz_R3 (g := (q_rx k n (q_X0 k)).2.2) (r := w) h hD (m_DS_dd h hc) (by omega) J.2 hr.1)
  rw [s]
  unfold q_fi
  rw [m_rx1 hn.1]
end RLS
/-- a round: what comes out, whether it changed something, whether no way is below 0 -/
theorem q_RL_s {k V U V1 U1 V2 U2 : Nat → Int} {n : Int} (h : q_KR k) (hc : q_con k (fun _ => 0)) (hn : 0 ≤ n ∧ n ≤ 59) (hf : q_fn k n) (hr : q_RL k n V U) : q_RL k (n + 1) (q_cp 100 (q_rn k V U (q_cp 100 V V1, q_cp 30 U U1)).1 V2) (q_cp 30 (q_rn k V U (q_cp 100 V V1, q_cp 30 U U1)).2 U2) := m_RL_s h hc hn hf hr
theorem q_RL_m {k V U V1 U1 m m9 : Nat → Int} {n : Int} (h : q_KR k) (hc : q_con k (fun _ => 0)) (hn : 0 ≤ n ∧ n ≤ 59) (hf : q_fn k n) (hr : q_RL k n V U) (hm : q_mvP m (q_cp 100 V V1) (q_cp 30 U U1) (q_rn k V U (q_cp 100 V V1, q_cp 30 U U1)).1 (q_rn k V U (q_cp 100 V V1, q_cp 30 U U1)).2 m9) : m9 3 = pz_bi (q_ha k (q_rx k n (q_X0 k))) := m_RL_m h hc hn hf hr hm
theorem q_RL_c {k V U w d : Nat → Int} {n : Int} (h : q_KR k) (hc : q_con k (fun _ => 0)) (hn : 0 ≤ n ∧ n ≤ 59) (hf : q_fn k n) (hr : q_RL k (n + 1) V U) : q_cw (k 0) (q_cp 100 (q_wz k V U w) d) := m_RL_c h hc hn hf hr
theorem q_RL_w {k V U w d : Nat → Int} {n : Int} (h : q_KR k) (hc : q_con k (fun _ => 0)) (hn : 0 ≤ n ∧ n ≤ 59) (hf : q_fn k n) (hr : q_RL k (n + 1) V U) : q_snd (k 0) (q_wz k V U w) d ↔ q_fi k (q_rx k n (q_X0 k)) := m_RL_w h hc hn hf hr
theorem q_last_eq {k : Nat → Int} {x : q_X} {m m' : Int} (h : q_last k x m) (h' : q_last k x m') : m = m' := by
  obtain ⟨h1, h2, h3⟩ := h
  obtain ⟨g1, g2, g3⟩ := h'
  rcases Int.lt_trichotomy m m' with h | h | h
  · exact absurd ⟨(g2 m h1.1 h).1, (g2 m h1.1 h).2, by omega⟩ h3
  · exact h
  · exact absurd ⟨(h2 m' g1.1 h).1, (h2 m' g1.1 h).2, by omega⟩ g3
theorem q_m_is {k : Nat → Int} {x : q_X} {m : Int} (h : q_last k x m) : q_m k x = m := q_last_eq q_m_ok h
theorem q_fn_s {k : Nat → Int} {n : Int} (hf : q_fn k n) (h : q_fi k (q_rx k n (q_X0 k)) ∧ q_ha k (q_rx k n (q_X0 k))) : q_fn k (n + 1) := by
  intro i h1 h2
  by_cases g : i = n
  · rw [g]; exact h
  · exact hf i h1 (by omega)
/-- the end of the rounds -/
theorem q_end {k V U m : Nat → Int} {n : Int} (hc : q_con k (fun _ => 0)) (hn : 0 ≤ n ∧ n ≤ 59) (hf : q_fn k n) (hl : ¬ (q_fi k (q_rx k n (q_X0 k)) ∧ q_ha k (q_rx k n (q_X0 k)) ∧ n < 59)) (hr : q_RL k (n + 1) V U) (h1 : m 1 = pz_bi (q_fi k (q_rx k n (q_X0 k)) ∧ ¬ (q_ha k (q_rx k n (q_X0 k)) ∧ n = 59))) (h2 : m 2 = n + pz_bi (q_ha k (q_rx k n (q_X0 k)))) : q_RK k m V U := by
  have hm : q_m k (q_X0 k) = n := q_m_is ⟨hn, hf, hl⟩
  have e : q_m k (q_x0 k (fun _ => 0) (fun _ => 0) (fun _ => 0) (fun _ => 0)) = n := hm
  refine ⟨?_, ?_, ?_⟩
  · rw [h1]
    refine pz_bi_iff ?_
    unfold q_sen q_seen
    rw [e]
    exact ⟨fun q => ⟨hc, q⟩, fun q => q.2⟩
  · rw [h2]
    unfold q_rnd q_rds
    rw [q_if_t hc, e]
    rfl
  · intro _
    unfold q_val q_zX
    rw [q_if_t hc, e]
    exact hr.1
theorem q_end0 {k V U m : Nat → Int} (hc : ¬ q_con k (fun _ => 0)) (h1 : m 1 = 0) (h2 : m 2 = 0) : q_RK k m V U := by
  refine ⟨?_, ?_, ?_⟩
  · rw [h1]; exact pz_bi_f (fun q => hc q.1)
  · rw [h2]; unfold q_rnd q_rds; rw [q_if_f hc]
  · intro q; exact absurd q.1 hc
theorem q_bz {p : Prop} {z : Int} (e : z = pz_bi p) (h : z ≠ 0) : p := pz_bi_ne (by rw [← e]; exact h)
theorem q_bzn {p : Prop} {z : Int} (e : z = pz_bi p) (h : z = 0) : ¬ p := pz_bi_eq (by rw [← e]; exact h)
theorem pz_bi_p1 {p : Prop} (h : p) : pz_bi p ≠ 0 := by rw [pz_bi_1 h]; decide
theorem q_NK_mk {k r u n : Nat → Int} (hk : q_KR k) : q_NK k (pz_up (pz_up n 0 (k 0)) 1 (pz_bi (q_snd (k 0) (q_lay k (fun _ => 0) r) u))) (q_lay k (fun _ => 0) r) (q_cls (k 0) (q_lay k (fun _ => 0) r) u) :=
  ⟨rfl, by rw [pz_up_eq]; exact pz_bi_iff (q_lay_con hk), ⟨r, rfl⟩, fun hc => ⟨q_lay_dd hk hc, q_lay_rng hk hc⟩⟩
theorem q_CI_n {k o n w d m V U j c : Nat → Int} (h : q_CI k o n w d m V U j c) (h7 : o 7 ≠ 0) : q_NK k n w d := by
  rcases h.1 with e | e
  · exact absurd e h7
  · exact e.2
theorem q_CI_r {k o n w d m V U j c : Nat → Int} (h : q_CI k o n w d m V U j c) (h7 : o 8 ≠ 0) : q_RK k m V U := by
  rcases h.2.1 with e | e
  · exact absurd e h7
  · exact e.2
theorem q_CI_c {k o n w d m V U j c : Nat → Int} (h : q_CI k o n w d m V U j c) (h7 : o 9 ≠ 0) : q_CK k j c := by
  rcases h.2.2 with e | e
  · exact absurd e h7
  · exact e.2
theorem q_CI_nk {k o n w d m V U j c n' w' d' : Nat → Int} (h : q_CI k o n w d m V U j c) (g : q_NK k n' w' d') : q_CI k (pz_up o 7 1) n' w' d' m V U j c :=
  ⟨Or.inr ⟨pz_up_eq, g⟩, by rw [pz_up_ne (by decide)]; exact h.2.1, by rw [pz_up_ne (by decide)]; exact h.2.2⟩
theorem q_CI_rk {k o n w d m V U j c m' V' U' : Nat → Int} (h : q_CI k o n w d m V U j c) (g : q_RK k m' V' U') : q_CI k (pz_up o 8 1) n w d m' V' U' j c :=
  ⟨by rw [pz_up_ne (by decide)]; exact h.1, Or.inr ⟨pz_up_eq, g⟩, by rw [pz_up_ne (by decide)]; exact h.2.2⟩
theorem q_CI_ck {k o n w d m V U j c j' c' : Nat → Int} (h : q_CI k o n w d m V U j c) (g : q_CK k j' c') : q_CI k (pz_up o 9 1) n w d m V U j' c' :=
  ⟨by rw [pz_up_ne (by decide)]; exact h.1, by rw [pz_up_ne (by decide)]; exact h.2.1, Or.inr ⟨pz_up_eq, g⟩⟩
theorem q_CI_0 {k o n w d m V U j c : Nat → Int} : q_CI k (pz_up (pz_up (pz_up o 7 0) 8 0) 9 0) n w d m V U j c := ⟨Or.inl rfl, Or.inl rfl, Or.inl rfl⟩
noncomputable def q_D (k : Nat → Int) : Nat → Int := q_dd k (fun _ => 0) (fun _ => 0)
theorem q_dR_D {k : Nat → Int} (h : q_KR k) (hc : q_con k (fun _ => 0)) : q_dR (q_D k) := fun _ hj => q_dd_r h hc hj
theorem m_dX_D {k : Nat → Int} (h : q_KR k) (hc : q_con k (fun _ => 0)) : q_dX k (q_D k) := by
  have h0 := h.r0
  have m := m_cls_eq (u := fun _ => 0) (by omega) (m_R_lay (lf := fun _ => 0) (g := fun _ => 0) (r := fun _ => 0) h) (m_con_eq.mpr hc)
  intro i j i1 i2 j1 j2
  unfold q_D q_dd
  rw [m.2.1, m.2.2.2.2.1 i j i1 (by omega) (by omega) j2 (Or.inr j1), if_neg (by omega)]
theorem q_dX_D {k : Nat → Int} (h : q_KR k) (hc : q_con k (fun _ => 0)) : q_dX k (q_D k) := m_dX_D h hc
theorem q_NK_D {k n w d : Nat → Int} (h : q_NK k n w d) (hc : q_con k (fun _ => 0)) : q_nD k d (q_D k) := (h.2.2.2 hc).1
theorem q_vb_val {k : Nat → Int} (h : q_KR k) (hc : q_sen k) : q_vb (q_val k) := q_zv_r h hc
/-- a potential of a square -/
def m_pot (p w : Nat → Int) : Prop := ∀ i j : Int, 0 ≤ i → i ≤ 9 → 0 ≤ j → j ≤ 9 → w (10 * i + j).toNat < 1000000 → p j.toNat ≤ p i.toNat + w (10 * i + j).toNat
/-- the least distance to an event, from any -/
theorem m_minD {k : Nat → Int} (h : q_KR k) (hc : q_con k (fun _ => 0)) : ∃ p : Nat → Int, ∀ j : Int, 0 ≤ j → j ≤ 9 → (-5400 ≤ p j.toNat ∧ p j.toNat ≤ 0) ∧ (∀ i : Int, 0 ≤ i → i ≤ 9 → p j.toNat ≤ q_D k (10 * i + j).toNat) ∧ ∃ i : Int, 0 ≤ i ∧ i ≤ 9 ∧ p j.toNat = q_D k (10 * i + j).toNat := by
  have D := m_D (g := fun _ => 0) h hc
  rw [show q_dd k (fun _ => 0) (fun _ => 0) = q_D k from rfl] at D
  obtain ⟨d1, d2, d3, d49, d5⟩ := D
  have d4 : m_wb 5400 (q_D k) := m_dd_5 h hc
  have key : ∀ j : Int, 0 ≤ j → j ≤ 9 → ∃ v : Int, (-5400 ≤ v ∧ v ≤ 0) ∧ (∀ i : Int, 0 ≤ i → i ≤ 9 → v ≤ q_D k (10 * i + j).toNat) ∧ ∃ i : Int, 0 ≤ i ∧ i ≤ 9 ∧ v = q_D k (10 * i + j).toNat := by
    intro j j1 j2
    have go : ∀ n : Nat, n ≤ 10 → ∃ v : Int, (-5400 ≤ v ∧ v ≤ 0) ∧ (∀ i : Int, 0 ≤ i → i < n → v ≤ q_D k (10 * i + j).toNat) ∧ ∃ i : Int, 0 ≤ i ∧ i ≤ 9 ∧ v = q_D k (10 * i + j).toNat := by
      intro n
      induction n with
      | zero =>
        intro _
        exact ⟨0, by omega, fun i _ _ => by omega, j, j1, j2, (d3 j j1 j2).symm⟩
      | succ n ih =>
        intro hn
        obtain ⟨v, v1, v2, i0, i1, i2, i3⟩ := ih (by omega)
        have b := d4 (10 * (n : Int) + j).toNat (by omega)
        by_cases g : q_D k (10 * (n : Int) + j).toNat < v
        · refine ⟨q_D k (10 * (n : Int) + j).toNat, by omega, ?_, n, by omega, by omega, rfl⟩
          intro i a1 a2
          by_cases e : i = n
          · rw [e]; exact Int.le_refl _
          · have := v2 i a1 (by omega)
            omega
        · refine ⟨v, v1, ?_, i0, i1, i2, i3⟩
          intro i a1 a2
          by_cases e : i = n
          · rw [e]; omega
          · exact v2 i a1 (by omega)
    obtain ⟨v, v1, v2, v3⟩ := go 10 (by omega)
    exact ⟨v, v1, fun i a1 a2 => v2 i a1 (by omega), v3⟩
  let Q : Int → Int → Prop := fun j v => (-5400 ≤ v ∧ v ≤ 0) ∧ (∀ i : Int, 0 ≤ i → i ≤ 9 → v ≤ q_D k (10 * i + j).toNat) ∧ ∃ i : Int, 0 ≤ i ∧ i ≤ 9 ∧ v = q_D k (10 * i + j).toNat
  refine ⟨fun n => Classical.epsilon (Q (n : Int)), fun j j1 j2 => ?_⟩
  have hs := Classical.epsilon_spec (p := Q j) (key j j1 j2)
  show Q j (Classical.epsilon (Q ((j.toNat : Nat) : Int)))
  rw [Int.toNat_of_nonneg j1]
  exact hs
/-- a potential of a consistent net, none above 0 -/
theorem m_potD {k : Nat → Int} (h : q_KR k) (hc : q_con k (fun _ => 0)) : ∃ p : Nat → Int, m_pot p (q_net k (fun _ => 0) (fun _ => 0)) ∧ ∀ j : Int, 0 ≤ j → j ≤ 9 → -5400 ≤ p j.toNat ∧ p j.toNat ≤ 0 := by
  have D := m_D (g := fun _ => 0) h hc
  rw [show q_dd k (fun _ => 0) (fun _ => 0) = q_D k from rfl] at D
  obtain ⟨d1, d2, d3, d4, d5⟩ := D
  obtain ⟨p, hp⟩ := m_minD h hc
  refine ⟨p, ?_, fun j j1 j2 => (hp j j1 j2).1⟩
  intro i j i1 i2 j1 j2 f
  obtain ⟨a1, a2, m, m1, m2, m3⟩ := hp i i1 i2
  have b := (hp j j1 j2).2.1 m m1 m2
  have c := d2 (10 * i + j).toNat
  have e := d1 m j i m1 m2 j1 j2 i1 (by omega) (by omega) (by omega)
  omega
theorem m_po_D {k w : Nat → Int} {f : Int} (h : q_KR k) (hc : q_con k (fun _ => 0)) (hf : 0 ≤ f ∧ f < k 0) (hw : ∃ r : Nat → Int, w = q_lay k (fun _ => 0) r) : ∃ p : Nat → Int, (∀ i j : Int, 0 ≤ i → i < k 0 → 0 ≤ j → j < k 0 → (-1000000000 ≤ w (10 * i + j).toNat ∧ w (10 * i + j).toNat ≤ 1000000000) ∧ (w (10 * i + j).toNat ≠ 1000000000 → p j.toNat ≤ p i.toNat + w (10 * i + j).toNat) ∧ -20000 ≤ p i.toNat ∧ p i.toNat ≤ 20000) ∧ p f.toNat ≤ 0 := by
  have h0 := h.r0
  obtain ⟨r0, hw⟩ := hw
  have hR := m_R_lay (lf := fun _ => 0) (g := fun _ => 0) (r := r0) h
  rw [← hw] at hR
  obtain ⟨p, hp, hb⟩ := m_potD h hc
  refine ⟨p, ?_, (hb f hf.1 (by omega)).2⟩
  intro i j i1 i2 j1 j2
  have a := hR.1 i j i1 i2 j1 j2
  have b := hR.2.2.1 (10 * i + j).toNat (by omega)
  have v := q_N_v (x := q_net k (fun _ => 0) (fun _ => 0) (10 * i + j).toNat) (by omega)
  have c := hb i i1 (by omega)
  have q := hp i j i1 (by omega) j1 (by omega)
  refine ⟨by omega, fun g => ?_, by omega⟩
  have := q (by omega)
  omega
/-- potentials: the distances from f, raised by the greatest to where no way leads -/
theorem q_po_D {k w : Nat → Int} {f : Int} (h : q_KR k) (hc : q_con k (fun _ => 0)) (hf : 0 ≤ f ∧ f < k 0) (hw : ∃ r : Nat → Int, w = q_lay k (fun _ => 0) r) : ∃ p : Nat → Int, q_po (k 0) p w ∧ p f.toNat ≤ 0 := by
  obtain ⟨p, h1, h2⟩ := m_po_D h hc hf hw
  exact ⟨p, h1, h2⟩
