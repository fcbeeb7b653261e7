/-! facts about what calls tell: plays -/
def t_W (k k' : Nat → Int) : Prop := ∀ j : Nat, j < 240 → k' j = k j
section FW
variable {k k' v : Nat → Int}
theorem f_W_rs (hk : q_KR k) (e : t_W k k') {a : Nat → Int} {x m : Int} : q_rs v a k' x m = q_rs v a k x m := by
  have h0 := hk.r0
  have e0 : k' 0 = k 0 := e 0 (by omega)
  have e2 : k' 2 = k 2 := e 2 (by omega)
  have i1 : q_ie k' x = q_ie k x := propext ⟨fun ⟨s, s1, s2, s3⟩ => ⟨s, s1, by omega, (e (212 + 4 * s + 1).toNat (by omega)).symm.trans s3⟩, fun ⟨s, s1, s2, s3⟩ => ⟨s, s1, by omega, (e (212 + 4 * s + 1).toNat (by omega)).trans s3⟩⟩
  have i2 : q_bh v a k' x = q_bh v a k x := by unfold q_bh; rw [e0]
  have p3 : ∀ s : Int, 0 ≤ s → s < k 2 → (q_mwP v a k' x m s ↔ q_mwP v a k x m s) := by
    intro s s1 s2
    unfold q_mwP q_wt
    rw [e (212 + 4 * s + 1).toNat (by omega), e (212 + 4 * s).toNat (by omega)]
  have i3 : q_mw v a k' x m = q_mw v a k x m := propext ⟨fun ⟨s, s1, s2, s3⟩ => ⟨s, s1, by omega, (p3 s s1 (by omega)).mp s3⟩, fun ⟨s, s1, s2, s3⟩ => ⟨s, s1, by omega, (p3 s s1 s2).mpr s3⟩⟩
  have i4 : q_lo v a k' x = q_lo v a k x := by unfold q_lo; rw [e0]
  have i5 : q_hi v a k' x = q_hi v a k x := by unfold q_hi; rw [e0]
  unfold q_rs
  rw [i1, i2, i3, i4, i5]
theorem f_W_pl (hk : q_KR k) (e : t_W k k') {a : Nat → Int} {p : Int} : q_pl v k' p a = q_pl v k p a := by
  have h0 := hk.r0
  have e0 : k' 0 = k 0 := e 0 (by omega)
  have e2 : k' 2 = k 2 := e 2 (by omega)
  have n1 : ∀ (m : Int) (b : Nat → Int), q_nxt v k' m b = q_nxt v k m b := by
    intro m b
    have : q_nx v b k' m = q_nx v b k m := by
      funext x
      unfold q_nx
      rw [e0]
      simp only [f_W_rs hk e]
    unfold q_nxt
    rw [this]
  unfold q_pl
  refine q_fr_congr (fun m y m1 m2 => ?_)
  unfold q_plS
  have i1 : q_aa k' y = q_aa k y := by unfold q_aa; rw [e0]
  rw [i1]
  have i2 : q_mi v k' p m y = q_mi v k p m y := by
    unfold q_mi q_sts
    have s1 : q_fr (q_enS k' p m) 0 (k' 2) y = q_fr (q_enS k p m) 0 (k 2) y := by
      rw [e2]
      refine q_fr_congr (fun s z z1 z2 => ?_)
      unfold q_enS
      rw [e (212 + 4 * s + 1).toNat (by omega), e (212 + 4 * s).toNat (by omega), e (212 + 4 * s + 3).toNat (by omega), e (212 + 4 * s + 2).toNat (by omega)]
    rw [s1]
    refine q_fr_congr (fun s z z1 z2 => ?_)
    unfold q_stp
    rw [n1]
  rw [i2]
theorem f_W_J (e : t_W k k') : t_J k k' := fun j hj => e j (by omega)
theorem f_W_fl (hk : q_KR k) (e : t_W k k') {p : Int} : q_flk k' p = q_flk k p := by
  have h0 := hk.r0
  have J := f_W_J e
  unfold q_flk
  rw [t_J_val hk J]
  unfold q_fl
  rw [f_W_pl hk e]
  have e0 : k' 0 = k 0 := e 0 (by omega)
  have e1 : k' 1 = k 1 := e 1 (by omega)
  have i1 : ∀ y : Nat → Int, q_aa k' y = q_aa k y := fun y => by unfold q_aa; rw [e0]
  have i2 : ∀ y : Nat → Int, q_all (q_kpP k' y) (k' 1) = q_all (q_kpP k y) (k 1) := by
    intro y
    rw [e1]
    have one : ∀ b : Int, 0 ≤ b → b < k 1 → (q_kpP k' y b ↔ q_kpP k y b) := by
      intro b b1 b2
      unfold q_kpP
      rw [t_J_hld hk J b1 b2, e (52 + 4 * b + 1).toNat (by omega), e (52 + 4 * b).toNat (by omega), e (52 + 4 * b + 2).toNat (by omega)]
    exact propext ⟨fun q b b1 b2 => (one b b1 b2).mp (q b b1 b2), fun q b b1 b2 => (one b b1 b2).mpr (q b b1 b2)⟩
  rw [i1, i2]
theorem f_W_plk (hk : q_KR k) (e : t_W k k') {p : Int} : q_plk k' p = q_plk k p := by
  unfold q_plk
  rw [t_J_val hk (f_W_J e), f_W_pl hk e]
theorem f_W_any (hk : q_KR k) (e : t_W k k') : q_exi (fun i => 1 ≤ i ∧ q_sta k' i) (k' 0) = q_exi (fun i => 1 ≤ i ∧ q_sta k i) (k 0) := by
  have h0 := hk.r0
  have e0 : k' 0 = k 0 := e 0 (by omega)
  exact propext ⟨fun ⟨s, s1, s2, s3⟩ => ⟨s, s1, by omega, s3.1, fun q => s3.2 ((e (6 + s).toNat (by omega)).trans q)⟩, fun ⟨s, s1, s2, s3⟩ => ⟨s, s1, by omega, s3.1, fun q => s3.2 ((e (6 + s).toNat (by omega)).symm.trans q)⟩⟩
theorem f_W_failure (hk : q_KR k) (e : t_W k k') {p : Int} : c_failure k' p = c_failure k p := by
  unfold c_failure
  rw [e 2 (by omega), f_W_any hk e, t_J_seen hk (f_W_J e), f_W_fl hk e]
theorem f_W_play (hk : q_KR k) (e : t_W k k') {p : Int} : c_play k' p = c_play k p := by
  unfold c_play
  rw [e 2 (by omega), f_W_any hk e, t_J_seen hk (f_W_J e), f_W_fl hk e, f_W_plk hk e, e 0 (by omega)]
theorem f_W_kept (hk : q_KR k) (e : t_W k k') : c_isKept k' = c_isKept k := by
  unfold c_isKept
  rw [e 2 (by omega), f_W_any hk e, t_J_seen hk (f_W_J e)]
  have : (fun p => q_flk k' p = 45) = (fun p => q_flk k p = 45) := by
    funext p
    rw [f_W_fl hk e]
  rw [this]
end FW
theorem f_W_kpl {k a : Nat → Int} {p : Int} : t_W k (k_play k p) := by
  intro j hj
  unfold k_play
  by_cases h1 : 0 ≤ p ∧ p ≤ q_p2 (k 2) - 1
  · rw [q_if_t h1]
    by_cases h2 : q_exi (fun i => 1 ≤ i ∧ q_sta k i) (k 0)
    · rw [q_if_t h2]
    · rw [q_if_f h2]
      by_cases h3 : q_sen k
      · rw [q_if_t h3]
        by_cases h4 : q_flk k p = 45
        · rw [q_if_t h4]
          unfold q_kpl
          rw [if_neg (by omega), if_neg (by omega)]
        · rw [q_if_f h4]
      · rw [q_if_f h3]
  · rw [q_if_f h1]
theorem t_W.tr {k k1 k2 : Nat → Int} (h : t_W k k1) (g : t_W k1 k2) : t_W k k2 := fun j hj => (g j hj).trans (h j hj)
/-! what is played has spans as picked -/
def f_PS (k : Nat → Int) (p : Int) (a : Nat → Int) : Prop := ∀ s : Int, 0 ≤ s → s < k 2 → a (k (212 + 4 * s + 1).toNat).toNat ≠ -1 → a (k (212 + 4 * s).toNat).toNat ≠ -1 ∧ a (k (212 + 4 * s + 1).toNat).toNat - a (k (212 + 4 * s).toNat).toNat = q_pck k p s
theorem f_PS_en {k : Nat → Int} {p m : Int} (hk : q_KR k) {a : Nat → Int} {s : Int} (hs : 0 ≤ s ∧ s < k 2) (h : f_PS k p a) : f_PS k p (q_enS k p m s a) := by
  unfold q_enS
  by_cases g : a (k (212 + 4 * s + 1).toNat).toNat = -1 ∧ a (k (212 + 4 * s).toNat).toNat ≠ -1 ∧ m - a (k (212 + 4 * s).toNat).toNat = q_if (q_up p s) (k (212 + 4 * s + 3).toNat) (k (212 + 4 * s + 2).toNat)
  · rw [q_if_t g]
    have sp := hk.sp hs.1 hs.2
    intro t t1 t2 t3
    have tp := hk.sp t1 t2
    by_cases c : t = s
    · subst c
      rw [pz_up_eq, pz_up_ne (show (k (212 + 4 * t).toNat).toNat ≠ (k (212 + 4 * t + 1).toNat).toNat by omega)]
      exact ⟨g.2.1, g.2.2⟩
    · have ne : k (212 + 4 * t + 1).toNat ≠ k (212 + 4 * s + 1).toNat := by
        rcases Int.lt_trichotomy t s with q | q | q
        · exact hk.sq t1 q hs.2
        · exact absurd q c
        · exact fun w => hk.sq hs.1 q t2 w.symm
      rw [pz_up_ne (show (k (212 + 4 * t + 1).toNat).toNat ≠ (k (212 + 4 * s + 1).toNat).toNat by omega)] at t3 ⊢
      have q := h t t1 t2 t3
      have ne2 : (k (212 + 4 * t).toNat).toNat ≠ (k (212 + 4 * s + 1).toNat).toNat := by
        intro w
        rw [w] at q
        exact q.1 g.1
      rw [pz_up_ne ne2]
      exact q
  · rw [q_if_f g]; exact h
theorem f_PS_stp {v k : Nat → Int} {p m : Int} (hk : q_KR k) {a : Nat → Int} (h : f_PS k p a) : f_PS k p (q_stp v k m a) := by
  unfold q_stp
  by_cases g : q_nxt v k m a = -1
  · rw [q_if_t g]; exact h
  · rw [q_if_f g]
    rcases q_nxt_ok (v := v) (a := a) (m := m) hk with ⟨n1, n2, n3, -⟩ | ⟨n1, -⟩
    · have an := q_rs_45 n3
      have ni := t_rs_ne n3
      intro t t1 t2 t3
      have tp := hk.sp t1 t2
      have ne : k (212 + 4 * t + 1).toNat ≠ q_nxt v k m a := fun w => ni ⟨t, t1, t2, w⟩
      rw [pz_up_ne (show (k (212 + 4 * t + 1).toNat).toNat ≠ (q_nxt v k m a).toNat by omega)] at t3 ⊢
      have q := h t t1 t2 t3
      have ne2 : (k (212 + 4 * t).toNat).toNat ≠ (q_nxt v k m a).toNat := by
        intro w
        rw [w] at q
        exact q.1 an
      rw [pz_up_ne ne2]
      exact q
    · exact absurd n1 g
theorem f_PS_pl {v k a : Nat → Int} {p : Int} (hk : q_KR k) : f_PS k p (q_pl v k p a) := by
  have h0 := hk.r0
  unfold q_pl
  refine q_fr_ind (f := q_plS v k p) (fun _ (y : Nat → Int) => f_PS k p y) (by omega) ?_ ?_
  · intro s s1 s2 s3
    have sp := hk.sp s1 s2
    exact absurd (show q_a0 a (k (212 + 4 * s + 1).toNat).toNat = -1 by
      unfold q_a0
      rw [if_neg (by omega), if_pos (by omega)]) s3
  · intro m y m1 m2 hy
    unfold q_plS
    by_cases g : q_aa k y
    · rw [q_if_t g]; exact hy
    · rw [q_if_f g]
      unfold q_mi q_sts
      refine q_fr_ind (f := fun _ a => q_stp v k m a) (fun _ (y : Nat → Int) => f_PS k p y) (by omega) ?_ (fun i z _ _ hz => f_PS_stp hk hz)
      exact q_fr_ind (f := q_enS k p m) (fun _ (y : Nat → Int) => f_PS k p y) (by omega) hy (fun i z i1 i2 hz => f_PS_en hk ⟨i1, i2⟩ hz)
/-! the last start -/
theorem f_la {a : Nat → Int} {n : Int} (hn : 0 ≤ n) : 0 ≤ q_la a n ∧ (∀ e : Int, 0 ≤ e → e < n → a e.toNat ≤ q_la a n) := by
  unfold q_la
  refine q_fr_ind (f := q_laS a) (fun i (x : Int) => 0 ≤ x ∧ ∀ e : Int, 0 ≤ e → e < i → a e.toNat ≤ x) hn ⟨by omega, fun e e1 e2 => by omega⟩ ?_
  intro i x i1 i2 hx
  unfold q_laS
  by_cases g : x < a i.toNat
  · rw [q_if_t g]
    refine ⟨by omega, fun e e1 e2 => ?_⟩
    by_cases c : e = i
    · rw [c]; exact Int.le_refl _
    · have := hx.2 e e1 (by omega)
      omega
  · rw [q_if_f g]
    refine ⟨hx.1, fun e e1 e2 => ?_⟩
    by_cases c : e = i
    · rw [c]; omega
    · exact hx.2 e e1 (by omega)
/-- may the plan be played -/
def f_pb (k : Nat → Int) : Prop := ¬ q_exi (fun i => 1 ≤ i ∧ q_sta k i) (k 0) ∧ q_sen k
theorem f_fp {k : Nat → Int} {p : Int} (hp : 0 ≤ p ∧ p < q_p2 (k 2)) : (¬ f_pb k ∧ c_failure k p = -99991002 ∧ c_play k p = -99991002) ∨ (f_pb k ∧ c_failure k p = 45 ∧ 0 ≤ c_play k p ∧ q_flk k p = 45) ∨ (f_pb k ∧ (c_failure k p = 98 ∨ c_failure k p = 109) ∧ c_play k p = -99991003 ∧ q_flk k p ≠ 45) := by
  have r : 0 ≤ p ∧ p ≤ q_p2 (k 2) - 1 := by omega
  unfold c_failure c_play
  rw [q_if_t r, q_if_t r]
  by_cases h1 : q_exi (fun i => 1 ≤ i ∧ q_sta k i) (k 0)
  · rw [q_if_t h1, q_if_t h1]
    exact Or.inl ⟨fun q => q.1 h1, rfl, rfl⟩
  rw [q_if_f h1, q_if_f h1]
  by_cases h2 : q_sen k
  · rw [q_if_t h2, q_if_t h2]
    by_cases h3 : q_flk k p = 45
    · rw [q_if_t h3, h3]
      by_cases hn : 0 ≤ k 0
      · exact Or.inr (Or.inl ⟨⟨h1, h2⟩, rfl, (f_la hn).1, rfl⟩)
      · refine Or.inr (Or.inl ⟨⟨h1, h2⟩, rfl, ?_, rfl⟩)
        unfold q_la
        rw [q_fr_0 (by omega)]
        exact Int.le_refl 0
    · rw [q_if_f h3]
      refine Or.inr (Or.inr ⟨⟨h1, h2⟩, ?_, rfl, h3⟩)
      rcases q_fl_r (v := q_val k) (k := k) (a := fun _ => 0) (p := p) with q | q | q
      · exact absurd q h3
      · exact Or.inl q
      · exact Or.inr q
  · rw [q_if_f h2, q_if_f h2]
    exact Or.inl ⟨fun q => h2 q.2, rfl, rfl⟩
theorem f_kept0 {k : Nat → Int} (h : ¬ f_pb k) : c_isKept k = -99991001 := by
  unfold c_isKept
  by_cases h1 : q_exi (fun i => 1 ≤ i ∧ q_sta k i) (k 0)
  · rw [q_if_t h1]
  · rw [q_if_f h1, q_if_f (fun q => h ⟨h1, q⟩)]
theorem f_kept1 {k : Nat → Int} (h : f_pb k) : c_isKept k = pz_bi (q_all (fun p => q_flk k p = 45) (q_p2 (k 2))) := by
  unfold c_isKept
  rw [q_if_f h.1, q_if_t h.2]
theorem f_faR {k : Nat → Int} : c_failure k (q_p2 (k 2)) = -99991001 := by
  unfold c_failure
  rw [q_if_f (by omega)]
/-- behind a play that does not fail -/
theorem f_pat {k k' : Nat → Int} {p e : Int} (hk : q_KR k) (hp : 0 ≤ p ∧ p < q_p2 (k 2)) (h : 0 ≤ c_play k p) (he : 0 ≤ e ∧ e < k 0) (hk' : k' = k_play k p) : c_playedAt k' e = q_plk k p e.toNat ∧ 0 ≤ q_plk k p e.toNat ∧ q_plk k p e.toNat ≤ 600 ∧ q_plk k p e.toNat ≤ c_play k p := by
  have h0 := hk.r0
  have r : 0 ≤ p ∧ p ≤ q_p2 (k 2) - 1 := by omega
  rcases f_fp hp with ⟨-, -, q⟩ | ⟨⟨b1, b2⟩, -, -, fl⟩ | ⟨-, -, q, -⟩
  · omega
  · have ek : k' = q_kpl k (q_plk k p) (k 0) := by
      rw [hk']
      unfold k_play
      rw [q_if_t r, q_if_f b1, q_if_t b2, q_if_t fl]
    have ep : c_play k p = q_la (q_plk k p) (k 0) := by
      unfold c_play
      rw [q_if_t r, q_if_f b1, q_if_t b2, q_if_t fl]
    have aa : q_aa k (q_plk k p) := by
      refine Classical.byContradiction (fun g => ?_)
      have fl2 := fl
      unfold q_flk q_fl at fl2
      unfold q_plk at g
      rw [q_if_f g] at fl2
      omega
    have al : q_al (q_plk k p) := m_pl_al hk
    have a1 := aa e he.1 he.2
    have a2 := al e he.1 (by omega)
    have e0 : k' 0 = k 0 := by rw [ek]; unfold q_kpl; rw [if_neg (by decide), if_neg (by omega)]
    have e240 : k' 240 = k 0 := by rw [ek]; unfold q_kpl; rw [if_pos (by decide)]
    refine ⟨?_, by omega, by omega, ?_⟩
    · unfold c_playedAt
      rw [e0, q_if_t (show 0 ≤ e ∧ e ≤ k 0 - 1 by omega), q_if_f (show ¬ k' 240 ≤ e by omega), ek]
      unfold q_kpl
      rw [if_neg (by omega), if_pos (by omega), show (((241 + e).toNat : Nat) : Int) - 241 = e by omega]
    · rw [ep]
      exact (f_la (by omega)).2 e he.1 he.2
  · omega
theorem f_psp {k k' : Nat → Int} {p s : Int} (hk : q_KR k) (hp : 0 ≤ p ∧ p < q_p2 (k 2)) (h : 0 ≤ c_play k p) (hs : 0 ≤ s ∧ s < k 2) (hk' : k' = k_play k p) : c_playedAt k' (k (212 + 4 * s + 1).toNat) - c_playedAt k' (k (212 + 4 * s).toNat) = q_pck k p s := by
  have sp := hk.sp hs.1 hs.2
  have a := f_pat hk hp h (e := k (212 + 4 * s + 1).toNat) (by omega) hk'
  have b := f_pat hk hp h (e := k (212 + 4 * s).toNat) (by omega) hk'
  have c := f_PS_pl (v := q_val k) (a := fun _ => 0) (p := p) hk s hs.1 hs.2 (show q_plk k p (k (212 + 4 * s + 1).toNat).toNat ≠ -1 by omega)
  have c2 : q_plk k p (k (212 + 4 * s + 1).toNat).toNat - q_plk k p (k (212 + 4 * s).toNat).toNat = q_pck k p s := c.2
  omega
