/-! the law's plays -/
theorem f_psp2 {k k' : Nat → Int} {p : Int} (hk : q_KR k) (hp : 0 ≤ p ∧ p < q_p2 (k 2)) (h : 0 ≤ c_play k p) (hk' : k' = k_play k p) {s : Int} (hs : 0 ≤ s ∧ s < k' 2) : c_playedAt k' (k' (212 + 4 * s + 1).toNat) - c_playedAt k' (k' (212 + 4 * s).toNat) = q_pck k' p s ∧ (0 ≤ c_playedAt k' (k' (212 + 4 * s + 1).toNat) ∧ c_playedAt k' (k' (212 + 4 * s + 1).toNat) ≤ 600) ∧ (0 ≤ c_playedAt k' (k' (212 + 4 * s).toNat) ∧ c_playedAt k' (k' (212 + 4 * s).toNat) ≤ 600) := by
  have h0 := hk.r0
  have e : t_W k k' := by rw [hk']; exact f_W_kpl (a := fun _ => 0)
  have e2 : k' 2 = k 2 := e 2 (by omega)
  have sp := hk.sp hs.1 (show s < k 2 by omega)
  have q := f_psp hk hp h (s := s) (by omega) hk'
  have a := f_pat hk hp h (e := k (212 + 4 * s + 1).toNat) (by omega) hk'
  have b := f_pat hk hp h (e := k (212 + 4 * s).toNat) (by omega) hk'
  have pk : q_pck k' p s = q_pck k p s := by
    unfold q_pck
    rw [e (212 + 4 * s + 3).toNat (by omega), e (212 + 4 * s + 2).toNat (by omega)]
  rw [pk, e (212 + 4 * s + 1).toNat (by omega), e (212 + 4 * s).toNat (by omega)]
  exact ⟨q, by omega, by omega⟩
theorem f_pat2 {k k' : Nat → Int} {p e : Int} (hk : q_KR k) (hp : 0 ≤ p ∧ p < q_p2 (k 2)) (h : 0 ≤ c_play k p) (hk' : k' = k_play k p) (he : 0 ≤ e ∧ e < k' 0) : 0 ≤ c_playedAt k' e ∧ c_playedAt k' e ≤ c_play k p := by
  have g : t_W k k' := by rw [hk']; exact f_W_kpl (a := fun _ => 0)
  have e0 : k' 0 = k 0 := g 0 (by omega)
  have a := f_pat hk hp h (e := e) (by omega) hk'
  omega
theorem f_all_t {k : Nat → Int} {p kp : Int} (hp : 0 ≤ p) (h : kp = pz_bi (q_all (fun q => q_flk k q = 45) p)) (hn : kp ≠ 0) (f : q_flk k p = 45) : (1 : Int) = pz_bi (q_all (fun q => q_flk k q = 45) (p + 1)) := q_all_t h hn hp f
theorem f_all_f {k : Nat → Int} {p kp : Int} (hp : 0 ≤ p) (h : kp = pz_bi (q_all (fun q => q_flk k q = 45) p)) (f : kp = 0 ∨ q_flk k p ≠ 45) : (0 : Int) = pz_bi (q_all (fun q => q_flk k q = 45) (p + 1)) := by
  rcases f with f | f
  · exact q_all_f1 h f hp
  · exact q_all_f2 hp f
theorem t_pl_s {L C S : Nat} {sc k d kf : Nat → Int} {n : Int} {kp p fl lst : Int} {Q : pz_Q} (hd : t_d k d) (hk : q_KR k) (hF : ∀ s : Int, 0 ≤ s → s < k 2 → c_playedAt k (k (212 + 4 * s + 1).toNat) - c_playedAt k (k (212 + 4 * s).toNat) = q_pck k p s ∧ (0 ≤ c_playedAt k (k (212 + 4 * s + 1).toNat) ∧ c_playedAt k (k (212 + 4 * s + 1).toNat) ≤ 600) ∧ (0 ≤ c_playedAt k (k (212 + 4 * s).toNat) ∧ c_playedAt k (k (212 + 4 * s).toNat) ≤ 600)) (K : ∀ (s : Int) (iv : Nat → Nat → Int) (dv : Nat → Nat → UInt64) (cc ss : Nat), t_I sc k d n kf iv → 0 ≤ s → cc ≤ C → ss ≤ S → pz_G 228 189 [some (.inr (.inl 2)), some (.inr (.inl 154)), some (.inl (kp)), some (.inl (p)), some (.inl (fl)), some (.inl (lst)), some (.inl (s))] [] (pz_Sh L, iv, dv, cc, ss) Q) : ∀ (m9 : Nat) (s : Int) (iv : Nat → Nat → Int) (dv : Nat → Nat → UInt64) (cc ss : Nat), 0 ≤ s → s ≤ k 2 → k 2 - s < m9 → t_I sc k d n kf iv → (cc : Int) + 2 * (k 2 - s) ≤ C → (ss : Int) + 12 * (k 2 - s) ≤ S → pz_G 228 103 [some (.inr (.inl 2)), some (.inr (.inl 154)), some (.inl (kp)), some (.inl (p)), some (.inl (fl)), some (.inl (lst)), some (.inl (s))] [] (pz_Sh L, iv, dv, cc, ss) Q := by
  intro m9
  have h0 := hk.r0
  induction m9 with
  | zero => intro s iv dv cc ss l1 l2 l3; omega
  | succ m9 ih =>
    intro s iv dv cc ss l1 l2 l3 hI l4 l5
    refine pz_G_of pz_b228_103 ?_
    refine w_loc rfl ?_
    refine w_loc rfl ?_
    refine w_pure rfl ?_
    refine w_iald is_154 ln_154 ⟨by omega, by omega⟩ (t_I_d2 hI hd) ?_
    refine w_ige (fun h1 => ?_) (fun h1 => ?_)
    · skip
      exact K s _ _ _ _ hI (by omega) (by omega) (by omega)
    · skip
      have f1 := hF s l1 (by omega)
      have f2 : pz_and (pz_shr p s) 1 = 1 → q_pck k p s = k (212 + 4 * s + 3).toNat := fun q => q_if_t q
      have f3 : pz_and (pz_shr p s) 1 ≠ 1 → q_pck k p s = k (212 + 4 * s + 2).toNat := fun q => q_if_f q
      refine w_loc rfl ?_
      refine w_zlt (fun h2 => ?_) (fun h2 => ?_)
      · skip
        exact K s _ _ _ _ hI (by omega) (by omega) (by omega)
      · skip
        refine w_loc rfl ?_
        refine w_loc rfl ?_
        refine w_pure rfl ?_
        refine w_pure rfl ?_
        refine w_loc rfl ?_
        refine w_imul ⟨by omega, by omega⟩ ?_
        refine w_iadd ⟨by omega, by omega⟩ ?_
        refine w_iald is_154 ln_154 ⟨by omega, by omega⟩ (t_I_s1 hI hd (by omega) (by omega)) ?_
        refine w_callO (t_S_playedAt (e := k (212 + 4 * s + 1).toNat) hI) rfl rfl (fun iv3 dv4 cc5 ss6 hI7 hc8 hs9 => ?_)
        refine w_loc rfl ?_
        refine w_loc rfl ?_
        refine w_pure rfl ?_
        refine w_pure rfl ?_
        refine w_loc rfl ?_
        refine w_imul ⟨by omega, by omega⟩ ?_
        refine w_iadd ⟨by omega, by omega⟩ ?_
        refine w_iald is_154 ln_154 ⟨by omega, by omega⟩ (t_I_s0 hI7 hd (by omega) (by omega)) ?_
        refine w_callO (t_S_playedAt (e := k (212 + 4 * s).toNat) hI7) rfl rfl (fun iv10 dv11 cc12 ss13 hI14 hc15 hs16 => ?_)
        refine w_isub ⟨by omega, by omega⟩ ?_
        refine w_loc rfl ?_
        refine w_loc rfl ?_
        refine w_ishr ?_
        refine w_pure rfl ?_
        refine w_iand ?_
        refine w_pure rfl ?_
        refine w_ine (fun h17 => ?_) (fun h17 => ?_)
        · skip
          refine pz_G_of pz_b228_168 ?_
          refine w_loc rfl ?_
          refine w_pure rfl ?_
          refine w_pure rfl ?_
          refine w_loc rfl ?_
          refine w_imul ⟨by omega, by omega⟩ ?_
          refine w_iadd ⟨by omega, by omega⟩ ?_
          refine w_iald is_154 ln_154 ⟨by omega, by omega⟩ (t_I_s2 hI14 hd (by omega) (by omega)) ?_
          refine w_nil ?_
          refine pz_G_of pz_b228_178 ?_
          refine w_ieq (fun h18 => ?_) (fun h18 => ?_)
          · skip
            refine pz_G_of pz_b228_183 ?_
            refine w_iinc rfl rfl (ls' := [some (.inr (.inl 2)), some (.inr (.inl 154)), some (.inl (kp)), some (.inl (p)), some (.inl (fl)), some (.inl (lst)), some (.inl (s + 1))]) rfl ⟨by omega, by omega⟩ ?_
            refine w_goto ?_
            exact ih (s + 1) _ _ _ _ (by omega) (by omega) (by omega) hI14 (by omega) (by omega)
          · skip
            refine w_pure rfl ?_
            exfalso
            omega
        · skip
          refine w_loc rfl ?_
          refine w_pure rfl ?_
          refine w_pure rfl ?_
          refine w_loc rfl ?_
          refine w_imul ⟨by omega, by omega⟩ ?_
          refine w_iadd ⟨by omega, by omega⟩ ?_
          refine w_iald is_154 ln_154 ⟨by omega, by omega⟩ (t_I_s3 hI14 hd (by omega) (by omega)) ?_
          refine w_goto ?_
          refine pz_G_of pz_b228_178 ?_
          refine w_ieq (fun h19 => ?_) (fun h19 => ?_)
          · skip
            refine pz_G_of pz_b228_183 ?_
            refine w_iinc rfl rfl (ls' := [some (.inr (.inl 2)), some (.inr (.inl 154)), some (.inl (kp)), some (.inl (p)), some (.inl (fl)), some (.inl (lst)), some (.inl (s + 1))]) rfl ⟨by omega, by omega⟩ ?_
            refine w_goto ?_
            exact ih (s + 1) _ _ _ _ (by omega) (by omega) (by omega) hI14 (by omega) (by omega)
          · skip
            refine w_pure rfl ?_
            exfalso
            omega
theorem t_pl_e {L C S : Nat} {sc k d kf : Nat → Int} {n : Int} {kp p fl lst : Int} {Q : pz_Q} (hd : t_d k d) (hk : q_KR k) (hF : ∀ e : Int, 0 ≤ e ∧ e < k 0 → 0 ≤ c_playedAt k e ∧ c_playedAt k e ≤ lst) (K : ∀ (e : Int) (iv : Nat → Nat → Int) (dv : Nat → Nat → UInt64) (cc ss : Nat), t_I sc k d n kf iv → 0 ≤ e → cc ≤ C → ss ≤ S → pz_G 228 233 [some (.inr (.inl 2)), some (.inr (.inl 154)), some (.inl (kp)), some (.inl (p)), some (.inl (fl)), some (.inl (lst)), some (.inl (e))] [] (pz_Sh L, iv, dv, cc, ss) Q) : ∀ (m9 : Nat) (e : Int) (iv : Nat → Nat → Int) (dv : Nat → Nat → UInt64) (cc ss : Nat), 0 ≤ e → e ≤ k 0 → k 0 - e < m9 → t_I sc k d n kf iv → (cc : Int) + 2 * (k 0 - e) ≤ C → (ss : Int) + 12 * (k 0 - e) ≤ S → pz_G 228 192 [some (.inr (.inl 2)), some (.inr (.inl 154)), some (.inl (kp)), some (.inl (p)), some (.inl (fl)), some (.inl (lst)), some (.inl (e))] [] (pz_Sh L, iv, dv, cc, ss) Q := by
  intro m9
  have h0 := hk.r0
  induction m9 with
  | zero => intro e iv dv cc ss l1 l2 l3; omega
  | succ m9 ih =>
    intro e iv dv cc ss l1 l2 l3 hI l4 l5
    refine pz_G_of pz_b228_192 ?_
    refine w_loc rfl ?_
    refine w_loc rfl ?_
    refine w_pure rfl ?_
    refine w_iald is_154 ln_154 ⟨by omega, by omega⟩ (t_I_d0 hI hd) ?_
    refine w_ige (fun h1 => ?_) (fun h1 => ?_)
    · skip
      exact K e _ _ _ _ hI (by omega) (by omega) (by omega)
    · skip
      have f1 := hF e (by omega)
      refine w_loc rfl ?_
      refine w_zlt (fun h2 => ?_) (fun h2 => ?_)
      · skip
        exact K e _ _ _ _ hI (by omega) (by omega) (by omega)
      · skip
        refine w_loc rfl ?_
        refine w_loc rfl ?_
        refine w_callO (t_S_playedAt (e := e) hI) rfl rfl (fun iv3 dv4 cc5 ss6 hI7 hc8 hs9 => ?_)
        refine w_loc rfl ?_
        refine w_igt (fun h10 => ?_) (fun h10 => ?_)
        · skip
          refine pz_G_of pz_b228_225 ?_
          refine w_pure rfl ?_
          exfalso
          omega
        · skip
          refine w_loc rfl ?_
          refine w_loc rfl ?_
          refine w_callO (t_S_playedAt (e := e) hI7) rfl rfl (fun iv11 dv12 cc13 ss14 hI15 hc16 hs17 => ?_)
          refine w_zge (fun h18 => ?_) (fun h18 => ?_)
          · skip
            refine pz_G_of pz_b228_227 ?_
            refine w_iinc rfl rfl (ls' := [some (.inr (.inl 2)), some (.inr (.inl 154)), some (.inl (kp)), some (.inl (p)), some (.inl (fl)), some (.inl (lst)), some (.inl (e + 1))]) rfl ⟨by omega, by omega⟩ ?_
            refine w_goto ?_
            exact ih (e + 1) _ _ _ _ (by omega) (by omega) (by omega) hI15 (by omega) (by omega)
          · skip
            refine w_nil ?_
            refine pz_G_of pz_b228_225 ?_
            refine w_pure rfl ?_
            exfalso
            omega
theorem t_pl_p {L cc0 ss0 : Nat} {sc k d kf : Nat → Int} {n : Int} (hd : t_d k d) (hk : q_KR k) (pb : f_pb k) : ∀ (m9 : Nat) (p kp : Int) (k1 : Nat → Int) (x4 x5 x6 : Option pz_V) (iv : Nat → Nat → Int) (dv : Nat → Nat → UInt64) (cc ss : Nat), 0 ≤ p → p ≤ q_p2 (k 2) → q_p2 (k 2) - p < m9 → kp = pz_bi (q_all (fun q => q_flk k q = 45) p) → t_W k k1 → t_I sc k1 d n kf iv → (cc : Int) + 30 * (q_p2 (k 2) - p) ≤ cc0 + 380 → (ss : Int) + 180 * (q_p2 (k 2) - p) ≤ ss0 + 2280 → pz_G 228 4 [some (.inr (.inl 2)), some (.inr (.inl 154)), some (.inl (kp)), some (.inl (p)), x4, x5, x6] [] (pz_Sh L, iv, dv, cc, ss) (t_OP L (.inl 1) 400 (fun iv9 => ∃ k9, t_W k k9 ∧ t_I sc k9 d n kf iv9) cc0 ss0) := by
  intro m9
  have h0 := hk.r0
  have pr := q_p2_r (a := k 2) (by omega) (by omega)
  induction m9 with
  | zero => intro p kp k1 x4 x5 x6 iv dv cc ss l1 l2 l3; omega
  | succ m9 ih =>
    intro p kp k1 x4 x5 x6 iv dv cc ss l1 l2 l3 hkp hW hI l4 l5
    have hk1 := hI.2.1
    have h1 := hk1.r0
    have hd1 : t_d k1 d := t_d_ag hk hd (fun j hj => hW j (by omega))
    have z0 : k1 0 = k 0 := hW 0 (by omega)
    have z2 : k1 2 = k 2 := hW 2 (by omega)
    have sh : pz_shl 1 (k1 2) = q_p2 (k 2) := by rw [z2]; exact q_shl_p2 (by omega) (by omega)
    have kb : kp = 0 ∨ kp = 1 := by rw [hkp]; exact pz_bi01 _
    have e1 := f_W_failure hk hW (p := p)
    have e2 := f_W_play hk hW (p := p)
    by_cases pp : p < q_p2 (k 2)
    · skip
      have pp1 : 0 ≤ p ∧ p < q_p2 (k1 2) := by rw [z2]; exact ⟨l1, pp⟩
      rcases f_fp (k := k) (p := p) ⟨l1, pp⟩ with ⟨g, -, -⟩ | ⟨-, g1, g2, g3⟩ | ⟨-, g1, g2, g3⟩
      · exact absurd pb g
      · skip
        refine pz_G_of pz_b228_4 ?_
        refine w_loc rfl ?_
        refine w_pure rfl ?_
        refine w_loc rfl ?_
        refine w_pure rfl ?_
        refine w_iald is_154 ln_154 ⟨by omega, by omega⟩ (t_I_d2 hI hd1) ?_
        refine w_ishl ?_
        refine w_ige (fun h1 => ?_) (fun h1 => ?_)
        · skip
          exfalso
          omega
        · skip
          refine w_loc rfl ?_
          refine w_loc rfl ?_
          refine w_callO (t_S_failure (p := p) hI) rfl rfl (fun iv2 dv3 cc4 ss5 hI6 hc7 hs8 => ?_)
          refine w_loc (ls' := [some (.inr (.inl 2)), some (.inr (.inl 154)), some (.inl (kp)), some (.inl (p)), some (.inl (c_failure k1 p)), x5, x6]) (st' := []) rfl ?_
          refine w_loc rfl ?_
          refine w_loc rfl ?_
          refine w_callO (t_S_play (p := p) hI6) rfl rfl (fun iv9 dv10 cc11 ss12 hI13 hc14 hs15 => ?_)
          have hW1 : t_W k1 (k_play k1 p) := f_W_kpl (a := fun _ => 0)
          generalize hk2 : k_play k1 p = k2 at hI13 hW1
          have hW2 : t_W k k2 := hW.tr hW1
          have hd2 : t_d k2 d := t_d_ag hk hd (fun j hj => hW2 j (by omega))
          have y0 : k2 0 = k 0 := hW2 0 (by omega)
          have y2 : k2 2 = k 2 := hW2 2 (by omega)
          refine w_loc (ls' := [some (.inr (.inl 2)), some (.inr (.inl 154)), some (.inl (kp)), some (.inl (p)), some (.inl (c_failure k1 p)), some (.inl (c_play k1 p)), x6]) (st' := []) rfl ?_
          refine w_loc rfl ?_
          refine w_ldcn ?_
          refine w_ine (fun h16 => ?_) (fun h16 => absurd h16 (by omega))
          refine pz_G_of pz_b228_56 ?_
          refine w_loc rfl ?_
          refine w_zeq (fun h17 => ?_) (fun h17 => ?_)
          · skip
            refine pz_G_of pz_b228_71 ?_
            refine w_pure rfl ?_
            refine w_nil ?_
            refine pz_G_of pz_b228_72 ?_
            refine w_loc (ls' := [some (.inr (.inl 2)), some (.inr (.inl 154)), some (.inl (0)), some (.inl (p)), some (.inl (c_failure k1 p)), some (.inl (c_play k1 p)), x6]) (st' := []) rfl ?_
            refine w_loc rfl ?_
            refine w_pure rfl ?_
            refine w_ine (fun h18 => absurd h18 (by omega)) (fun h18 => ?_)
            refine w_pure rfl ?_
            refine w_goto ?_
            refine pz_G_of pz_b228_85 ?_
            refine w_loc rfl ?_
            refine w_zlt (fun h19 => ?_) (fun h19 => ?_)
            · skip
              refine pz_G_of pz_b228_94 ?_
              refine w_pure rfl ?_
              refine w_nil ?_
              refine pz_G_of pz_b228_95 ?_
              refine w_ieq (fun h20 => absurd h20 (by omega)) (fun h20 => ?_)
              refine w_pure rfl ?_
              exfalso
              omega
            · skip
              refine w_pure rfl ?_
              refine w_goto ?_
              refine pz_G_of pz_b228_95 ?_
              refine w_ieq (fun h21 => ?_) (fun h21 => absurd h21 (by omega))
              refine pz_G_of pz_b228_100 ?_
              refine w_pure rfl ?_
              refine w_loc (ls' := [some (.inr (.inl 2)), some (.inr (.inl 154)), some (.inl (0)), some (.inl (p)), some (.inl (c_failure k1 p)), some (.inl (c_play k1 p)), some (.inl (0))]) (st' := []) rfl ?_
              refine w_nil ?_
              refine t_pl_s (C := cc11 + 6) (S := ss12 + 36) hd2 hI13.2.1 (fun s r1 r2 => f_psp2 hk1 pp1 (by omega) hk2.symm ⟨r1, r2⟩) (fun s9 iv9 dv9 cc9 ss9 hI9 q9 hC9 hS9 => ?_) (k 2 + 1).toNat 0 _ _ _ _ (by omega) (by omega) (by omega) hI13 (by omega) (by omega)
              refine pz_G_of pz_b228_189 ?_
              refine w_pure rfl ?_
              refine w_loc (ls' := [some (.inr (.inl 2)), some (.inr (.inl 154)), some (.inl (0)), some (.inl (p)), some (.inl (c_failure k1 p)), some (.inl (c_play k1 p)), some (.inl (0))]) (st' := []) rfl ?_
              refine w_nil ?_
              refine t_pl_e (C := cc9 + 20) (S := ss9 + 120) hd2 hI9.2.1 (fun e r => f_pat2 hk1 pp1 (by omega) hk2.symm r) (fun e9 iv8 dv8 cc8 ss8 hI8 q8 hC8 hS8 => ?_) (k 0 + 1).toNat 0 _ _ _ _ (by omega) (by omega) (by omega) hI9 (by omega) (by omega)
              refine pz_G_of pz_b228_233 ?_
              refine w_iinc rfl rfl (ls' := [some (.inr (.inl 2)), some (.inr (.inl 154)), some (.inl (0)), some (.inl (p + 1)), some (.inl (c_failure k1 p)), some (.inl (c_play k1 p)), some (.inl (e9))]) rfl ⟨by omega, by omega⟩ ?_
              refine w_goto ?_
              exact ih (p + 1) 0 k2 _ _ _ _ _ _ _ (by omega) (by omega) (by omega) (f_all_f l1 hkp (Or.inl (by omega))) hW2 hI8 (by omega) (by omega)
          · skip
            refine w_loc rfl ?_
            refine w_pure rfl ?_
            refine w_ine (fun h22 => absurd h22 (by omega)) (fun h22 => ?_)
            refine w_pure rfl ?_
            refine w_goto ?_
            refine pz_G_of pz_b228_72 ?_
            refine w_loc (ls' := [some (.inr (.inl 2)), some (.inr (.inl 154)), some (.inl (1)), some (.inl (p)), some (.inl (c_failure k1 p)), some (.inl (c_play k1 p)), x6]) (st' := []) rfl ?_
            refine w_loc rfl ?_
            refine w_pure rfl ?_
            refine w_ine (fun h23 => absurd h23 (by omega)) (fun h23 => ?_)
            refine w_pure rfl ?_
            refine w_goto ?_
            refine pz_G_of pz_b228_85 ?_
            refine w_loc rfl ?_
            refine w_zlt (fun h24 => ?_) (fun h24 => ?_)
            · skip
              refine pz_G_of pz_b228_94 ?_
              refine w_pure rfl ?_
              refine w_nil ?_
              refine pz_G_of pz_b228_95 ?_
              refine w_ieq (fun h25 => absurd h25 (by omega)) (fun h25 => ?_)
              refine w_pure rfl ?_
              exfalso
              omega
            · skip
              refine w_pure rfl ?_
              refine w_goto ?_
              refine pz_G_of pz_b228_95 ?_
              refine w_ieq (fun h26 => ?_) (fun h26 => absurd h26 (by omega))
              refine pz_G_of pz_b228_100 ?_
              refine w_pure rfl ?_
              refine w_loc (ls' := [some (.inr (.inl 2)), some (.inr (.inl 154)), some (.inl (1)), some (.inl (p)), some (.inl (c_failure k1 p)), some (.inl (c_play k1 p)), some (.inl (0))]) (st' := []) rfl ?_
              refine w_nil ?_
              refine t_pl_s (C := cc11 + 6) (S := ss12 + 36) hd2 hI13.2.1 (fun s r1 r2 => f_psp2 hk1 pp1 (by omega) hk2.symm ⟨r1, r2⟩) (fun s9 iv9 dv9 cc9 ss9 hI9 q9 hC9 hS9 => ?_) (k 2 + 1).toNat 0 _ _ _ _ (by omega) (by omega) (by omega) hI13 (by omega) (by omega)
              refine pz_G_of pz_b228_189 ?_
              refine w_pure rfl ?_
              refine w_loc (ls' := [some (.inr (.inl 2)), some (.inr (.inl 154)), some (.inl (1)), some (.inl (p)), some (.inl (c_failure k1 p)), some (.inl (c_play k1 p)), some (.inl (0))]) (st' := []) rfl ?_
              refine w_nil ?_
              refine t_pl_e (C := cc9 + 20) (S := ss9 + 120) hd2 hI9.2.1 (fun e r => f_pat2 hk1 pp1 (by omega) hk2.symm r) (fun e9 iv8 dv8 cc8 ss8 hI8 q8 hC8 hS8 => ?_) (k 0 + 1).toNat 0 _ _ _ _ (by omega) (by omega) (by omega) hI9 (by omega) (by omega)
              refine pz_G_of pz_b228_233 ?_
              refine w_iinc rfl rfl (ls' := [some (.inr (.inl 2)), some (.inr (.inl 154)), some (.inl (1)), some (.inl (p + 1)), some (.inl (c_failure k1 p)), some (.inl (c_play k1 p)), some (.inl (e9))]) rfl ⟨by omega, by omega⟩ ?_
              refine w_goto ?_
              exact ih (p + 1) 1 k2 _ _ _ _ _ _ _ (by omega) (by omega) (by omega) (f_all_t l1 hkp (by omega) g3) hW2 hI8 (by omega) (by omega)
      · skip
        refine pz_G_of pz_b228_4 ?_
        refine w_loc rfl ?_
        refine w_pure rfl ?_
        refine w_loc rfl ?_
        refine w_pure rfl ?_
        refine w_iald is_154 ln_154 ⟨by omega, by omega⟩ (t_I_d2 hI hd1) ?_
        refine w_ishl ?_
        refine w_ige (fun h27 => ?_) (fun h27 => ?_)
        · skip
          exfalso
          omega
        · skip
          refine w_loc rfl ?_
          refine w_loc rfl ?_
          refine w_callO (t_S_failure (p := p) hI) rfl rfl (fun iv28 dv29 cc30 ss31 hI32 hc33 hs34 => ?_)
          refine w_loc (ls' := [some (.inr (.inl 2)), some (.inr (.inl 154)), some (.inl (kp)), some (.inl (p)), some (.inl (c_failure k1 p)), x5, x6]) (st' := []) rfl ?_
          refine w_loc rfl ?_
          refine w_loc rfl ?_
          refine w_callO (t_S_play (p := p) hI32) rfl rfl (fun iv35 dv36 cc37 ss38 hI39 hc40 hs41 => ?_)
          have hW1 : t_W k1 (k_play k1 p) := f_W_kpl (a := fun _ => 0)
          generalize hk2 : k_play k1 p = k2 at hI39 hW1
          have hW2 : t_W k k2 := hW.tr hW1
          have hd2 : t_d k2 d := t_d_ag hk hd (fun j hj => hW2 j (by omega))
          have y0 : k2 0 = k 0 := hW2 0 (by omega)
          have y2 : k2 2 = k 2 := hW2 2 (by omega)
          refine w_loc (ls' := [some (.inr (.inl 2)), some (.inr (.inl 154)), some (.inl (kp)), some (.inl (p)), some (.inl (c_failure k1 p)), some (.inl (c_play k1 p)), x6]) (st' := []) rfl ?_
          refine w_loc rfl ?_
          refine w_ldcn ?_
          refine w_ine (fun h42 => ?_) (fun h42 => ?_)
          · skip
            refine pz_G_of pz_b228_56 ?_
            refine w_loc rfl ?_
            refine w_zeq (fun h43 => ?_) (fun h43 => ?_)
            · skip
              refine pz_G_of pz_b228_71 ?_
              refine w_pure rfl ?_
              refine w_nil ?_
              refine pz_G_of pz_b228_72 ?_
              refine w_loc (ls' := [some (.inr (.inl 2)), some (.inr (.inl 154)), some (.inl (0)), some (.inl (p)), some (.inl (c_failure k1 p)), some (.inl (c_play k1 p)), x6]) (st' := []) rfl ?_
              refine w_loc rfl ?_
              refine w_pure rfl ?_
              refine w_ine (fun h44 => ?_) (fun h44 => ?_)
              · skip
                refine pz_G_of pz_b228_84 ?_
                refine w_pure rfl ?_
                refine w_nil ?_
                refine pz_G_of pz_b228_85 ?_
                refine w_loc rfl ?_
                refine w_zlt (fun h45 => ?_) (fun h45 => absurd h45 (by omega))
                refine pz_G_of pz_b228_94 ?_
                refine w_pure rfl ?_
                refine w_nil ?_
                refine pz_G_of pz_b228_95 ?_
                refine w_ieq (fun h46 => ?_) (fun h46 => absurd h46 (by omega))
                refine pz_G_of pz_b228_100 ?_
                refine w_pure rfl ?_
                refine w_loc (ls' := [some (.inr (.inl 2)), some (.inr (.inl 154)), some (.inl (0)), some (.inl (p)), some (.inl (c_failure k1 p)), some (.inl (c_play k1 p)), some (.inl (0))]) (st' := []) rfl ?_
                refine w_nil ?_
                refine pz_G_of pz_b228_103 ?_
                refine w_loc rfl ?_
                refine w_loc rfl ?_
                refine w_pure rfl ?_
                refine w_iald is_154 ln_154 ⟨by omega, by omega⟩ (t_I_d2 hI39 hd2) ?_
                refine w_ige (fun h47 => ?_) (fun h47 => ?_)
                · skip
                  refine pz_G_of pz_b228_189 ?_
                  refine w_pure rfl ?_
                  refine w_loc (ls' := [some (.inr (.inl 2)), some (.inr (.inl 154)), some (.inl (0)), some (.inl (p)), some (.inl (c_failure k1 p)), some (.inl (c_play k1 p)), some (.inl (0))]) (st' := []) rfl ?_
                  refine w_nil ?_
                  refine pz_G_of pz_b228_192 ?_
                  refine w_loc rfl ?_
                  refine w_loc rfl ?_
                  refine w_pure rfl ?_
                  refine w_iald is_154 ln_154 ⟨by omega, by omega⟩ (t_I_d0 hI39 hd2) ?_
                  refine w_ige (fun h48 => ?_) (fun h48 => ?_)
                  · skip
                    refine pz_G_of pz_b228_233 ?_
                    refine w_iinc rfl rfl (ls' := [some (.inr (.inl 2)), some (.inr (.inl 154)), some (.inl (0)), some (.inl (p + 1)), some (.inl (c_failure k1 p)), some (.inl (c_play k1 p)), some (.inl (0))]) rfl ⟨by omega, by omega⟩ ?_
                    refine w_goto ?_
                    exact ih (p + 1) 0 k2 _ _ _ _ _ _ _ (by omega) (by omega) (by omega) (f_all_f l1 hkp (Or.inr g3)) hW2 hI39 (by omega) (by omega)
                  · skip
                    refine w_loc rfl ?_
                    refine w_zlt (fun h49 => ?_) (fun h49 => absurd h49 (by omega))
                    refine pz_G_of pz_b228_233 ?_
                    refine w_iinc rfl rfl (ls' := [some (.inr (.inl 2)), some (.inr (.inl 154)), some (.inl (0)), some (.inl (p + 1)), some (.inl (c_failure k1 p)), some (.inl (c_play k1 p)), some (.inl (0))]) rfl ⟨by omega, by omega⟩ ?_
                    refine w_goto ?_
                    exact ih (p + 1) 0 k2 _ _ _ _ _ _ _ (by omega) (by omega) (by omega) (f_all_f l1 hkp (Or.inr g3)) hW2 hI39 (by omega) (by omega)
                · skip
                  refine w_loc rfl ?_
                  refine w_zlt (fun h50 => ?_) (fun h50 => absurd h50 (by omega))
                  refine pz_G_of pz_b228_189 ?_
                  refine w_pure rfl ?_
                  refine w_loc (ls' := [some (.inr (.inl 2)), some (.inr (.inl 154)), some (.inl (0)), some (.inl (p)), some (.inl (c_failure k1 p)), some (.inl (c_play k1 p)), some (.inl (0))]) (st' := []) rfl ?_
                  refine w_nil ?_
                  refine pz_G_of pz_b228_192 ?_
                  refine w_loc rfl ?_
                  refine w_loc rfl ?_
                  refine w_pure rfl ?_
                  refine w_iald is_154 ln_154 ⟨by omega, by omega⟩ (t_I_d0 hI39 hd2) ?_
                  refine w_ige (fun h51 => ?_) (fun h51 => ?_)
                  · skip
                    refine pz_G_of pz_b228_233 ?_
                    refine w_iinc rfl rfl (ls' := [some (.inr (.inl 2)), some (.inr (.inl 154)), some (.inl (0)), some (.inl (p + 1)), some (.inl (c_failure k1 p)), some (.inl (c_play k1 p)), some (.inl (0))]) rfl ⟨by omega, by omega⟩ ?_
                    refine w_goto ?_
                    exact ih (p + 1) 0 k2 _ _ _ _ _ _ _ (by omega) (by omega) (by omega) (f_all_f l1 hkp (Or.inr g3)) hW2 hI39 (by omega) (by omega)
                  · skip
                    refine w_loc rfl ?_
                    refine w_zlt (fun h52 => ?_) (fun h52 => absurd h52 (by omega))
                    refine pz_G_of pz_b228_233 ?_
                    refine w_iinc rfl rfl (ls' := [some (.inr (.inl 2)), some (.inr (.inl 154)), some (.inl (0)), some (.inl (p + 1)), some (.inl (c_failure k1 p)), some (.inl (c_play k1 p)), some (.inl (0))]) rfl ⟨by omega, by omega⟩ ?_
                    refine w_goto ?_
                    exact ih (p + 1) 0 k2 _ _ _ _ _ _ _ (by omega) (by omega) (by omega) (f_all_f l1 hkp (Or.inr g3)) hW2 hI39 (by omega) (by omega)
              · skip
                refine w_pure rfl ?_
                refine w_goto ?_
                refine pz_G_of pz_b228_85 ?_
                refine w_loc rfl ?_
                refine w_zlt (fun h53 => ?_) (fun h53 => absurd h53 (by omega))
                refine pz_G_of pz_b228_94 ?_
                refine w_pure rfl ?_
                refine w_nil ?_
                refine pz_G_of pz_b228_95 ?_
                refine w_ieq (fun h54 => absurd h54 (by omega)) (fun h54 => ?_)
                refine w_pure rfl ?_
                exfalso
                omega
            · skip
              refine w_loc rfl ?_
              refine w_pure rfl ?_
              refine w_ine (fun h55 => ?_) (fun h55 => ?_)
              · skip
                refine pz_G_of pz_b228_71 ?_
                refine w_pure rfl ?_
                refine w_nil ?_
                refine pz_G_of pz_b228_72 ?_
                refine w_loc (ls' := [some (.inr (.inl 2)), some (.inr (.inl 154)), some (.inl (0)), some (.inl (p)), some (.inl (c_failure k1 p)), some (.inl (c_play k1 p)), x6]) (st' := []) rfl ?_
                refine w_loc rfl ?_
                refine w_pure rfl ?_
                refine w_ine (fun h56 => ?_) (fun h56 => ?_)
                · skip
                  refine pz_G_of pz_b228_84 ?_
                  refine w_pure rfl ?_
                  refine w_nil ?_
                  refine pz_G_of pz_b228_85 ?_
                  refine w_loc rfl ?_
                  refine w_zlt (fun h57 => ?_) (fun h57 => absurd h57 (by omega))
                  refine pz_G_of pz_b228_94 ?_
                  refine w_pure rfl ?_
                  refine w_nil ?_
                  refine pz_G_of pz_b228_95 ?_
                  refine w_ieq (fun h58 => ?_) (fun h58 => absurd h58 (by omega))
                  refine pz_G_of pz_b228_100 ?_
                  refine w_pure rfl ?_
                  refine w_loc (ls' := [some (.inr (.inl 2)), some (.inr (.inl 154)), some (.inl (0)), some (.inl (p)), some (.inl (c_failure k1 p)), some (.inl (c_play k1 p)), some (.inl (0))]) (st' := []) rfl ?_
                  refine w_nil ?_
                  refine pz_G_of pz_b228_103 ?_
                  refine w_loc rfl ?_
                  refine w_loc rfl ?_
                  refine w_pure rfl ?_
                  refine w_iald is_154 ln_154 ⟨by omega, by omega⟩ (t_I_d2 hI39 hd2) ?_
                  refine w_ige (fun h59 => ?_) (fun h59 => ?_)
                  · skip
                    refine pz_G_of pz_b228_189 ?_
                    refine w_pure rfl ?_
                    refine w_loc (ls' := [some (.inr (.inl 2)), some (.inr (.inl 154)), some (.inl (0)), some (.inl (p)), some (.inl (c_failure k1 p)), some (.inl (c_play k1 p)), some (.inl (0))]) (st' := []) rfl ?_
                    refine w_nil ?_
                    refine pz_G_of pz_b228_192 ?_
                    refine w_loc rfl ?_
                    refine w_loc rfl ?_
                    refine w_pure rfl ?_
                    refine w_iald is_154 ln_154 ⟨by omega, by omega⟩ (t_I_d0 hI39 hd2) ?_
                    refine w_ige (fun h60 => ?_) (fun h60 => ?_)
                    · skip
                      refine pz_G_of pz_b228_233 ?_
                      refine w_iinc rfl rfl (ls' := [some (.inr (.inl 2)), some (.inr (.inl 154)), some (.inl (0)), some (.inl (p + 1)), some (.inl (c_failure k1 p)), some (.inl (c_play k1 p)), some (.inl (0))]) rfl ⟨by omega, by omega⟩ ?_
                      refine w_goto ?_
                      exact ih (p + 1) 0 k2 _ _ _ _ _ _ _ (by omega) (by omega) (by omega) (f_all_f l1 hkp (Or.inr g3)) hW2 hI39 (by omega) (by omega)
                    · skip
                      refine w_loc rfl ?_
                      refine w_zlt (fun h61 => ?_) (fun h61 => absurd h61 (by omega))
                      refine pz_G_of pz_b228_233 ?_
                      refine w_iinc rfl rfl (ls' := [some (.inr (.inl 2)), some (.inr (.inl 154)), some (.inl (0)), some (.inl (p + 1)), some (.inl (c_failure k1 p)), some (.inl (c_play k1 p)), some (.inl (0))]) rfl ⟨by omega, by omega⟩ ?_
                      refine w_goto ?_
                      exact ih (p + 1) 0 k2 _ _ _ _ _ _ _ (by omega) (by omega) (by omega) (f_all_f l1 hkp (Or.inr g3)) hW2 hI39 (by omega) (by omega)
                  · skip
                    refine w_loc rfl ?_
                    refine w_zlt (fun h62 => ?_) (fun h62 => absurd h62 (by omega))
                    refine pz_G_of pz_b228_189 ?_
                    refine w_pure rfl ?_
                    refine w_loc (ls' := [some (.inr (.inl 2)), some (.inr (.inl 154)), some (.inl (0)), some (.inl (p)), some (.inl (c_failure k1 p)), some (.inl (c_play k1 p)), some (.inl (0))]) (st' := []) rfl ?_
                    refine w_nil ?_
                    refine pz_G_of pz_b228_192 ?_
                    refine w_loc rfl ?_
                    refine w_loc rfl ?_
                    refine w_pure rfl ?_
                    refine w_iald is_154 ln_154 ⟨by omega, by omega⟩ (t_I_d0 hI39 hd2) ?_
                    refine w_ige (fun h63 => ?_) (fun h63 => ?_)
                    · skip
                      refine pz_G_of pz_b228_233 ?_
                      refine w_iinc rfl rfl (ls' := [some (.inr (.inl 2)), some (.inr (.inl 154)), some (.inl (0)), some (.inl (p + 1)), some (.inl (c_failure k1 p)), some (.inl (c_play k1 p)), some (.inl (0))]) rfl ⟨by omega, by omega⟩ ?_
                      refine w_goto ?_
                      exact ih (p + 1) 0 k2 _ _ _ _ _ _ _ (by omega) (by omega) (by omega) (f_all_f l1 hkp (Or.inr g3)) hW2 hI39 (by omega) (by omega)
                    · skip
                      refine w_loc rfl ?_
                      refine w_zlt (fun h64 => ?_) (fun h64 => absurd h64 (by omega))
                      refine pz_G_of pz_b228_233 ?_
                      refine w_iinc rfl rfl (ls' := [some (.inr (.inl 2)), some (.inr (.inl 154)), some (.inl (0)), some (.inl (p + 1)), some (.inl (c_failure k1 p)), some (.inl (c_play k1 p)), some (.inl (0))]) rfl ⟨by omega, by omega⟩ ?_
                      refine w_goto ?_
                      exact ih (p + 1) 0 k2 _ _ _ _ _ _ _ (by omega) (by omega) (by omega) (f_all_f l1 hkp (Or.inr g3)) hW2 hI39 (by omega) (by omega)
                · skip
                  refine w_pure rfl ?_
                  refine w_goto ?_
                  refine pz_G_of pz_b228_85 ?_
                  refine w_loc rfl ?_
                  refine w_zlt (fun h65 => ?_) (fun h65 => absurd h65 (by omega))
                  refine pz_G_of pz_b228_94 ?_
                  refine w_pure rfl ?_
                  refine w_nil ?_
                  refine pz_G_of pz_b228_95 ?_
                  refine w_ieq (fun h66 => absurd h66 (by omega)) (fun h66 => ?_)
                  refine w_pure rfl ?_
                  exfalso
                  omega
              · skip
                refine w_pure rfl ?_
                refine w_goto ?_
                refine pz_G_of pz_b228_72 ?_
                refine w_loc (ls' := [some (.inr (.inl 2)), some (.inr (.inl 154)), some (.inl (1)), some (.inl (p)), some (.inl (c_failure k1 p)), some (.inl (c_play k1 p)), x6]) (st' := []) rfl ?_
                refine w_loc rfl ?_
                refine w_pure rfl ?_
                refine w_ine (fun h67 => ?_) (fun h67 => ?_)
                · skip
                  refine pz_G_of pz_b228_84 ?_
                  refine w_pure rfl ?_
                  refine w_nil ?_
                  refine pz_G_of pz_b228_85 ?_
                  refine w_loc rfl ?_
                  refine w_zlt (fun h68 => ?_) (fun h68 => absurd h68 (by omega))
                  refine pz_G_of pz_b228_94 ?_
                  refine w_pure rfl ?_
                  refine w_nil ?_
                  refine pz_G_of pz_b228_95 ?_
                  refine w_ieq (fun h69 => ?_) (fun h69 => absurd h69 (by omega))
                  refine pz_G_of pz_b228_100 ?_
                  refine w_pure rfl ?_
                  refine w_loc (ls' := [some (.inr (.inl 2)), some (.inr (.inl 154)), some (.inl (1)), some (.inl (p)), some (.inl (c_failure k1 p)), some (.inl (c_play k1 p)), some (.inl (0))]) (st' := []) rfl ?_
                  refine w_nil ?_
                  refine pz_G_of pz_b228_103 ?_
                  refine w_loc rfl ?_
                  refine w_loc rfl ?_
                  refine w_pure rfl ?_
                  refine w_iald is_154 ln_154 ⟨by omega, by omega⟩ (t_I_d2 hI39 hd2) ?_
                  refine w_ige (fun h70 => ?_) (fun h70 => ?_)
                  · skip
                    refine pz_G_of pz_b228_189 ?_
                    refine w_pure rfl ?_
                    refine w_loc (ls' := [some (.inr (.inl 2)), some (.inr (.inl 154)), some (.inl (1)), some (.inl (p)), some (.inl (c_failure k1 p)), some (.inl (c_play k1 p)), some (.inl (0))]) (st' := []) rfl ?_
                    refine w_nil ?_
                    refine pz_G_of pz_b228_192 ?_
                    refine w_loc rfl ?_
                    refine w_loc rfl ?_
                    refine w_pure rfl ?_
                    refine w_iald is_154 ln_154 ⟨by omega, by omega⟩ (t_I_d0 hI39 hd2) ?_
                    refine w_ige (fun h71 => ?_) (fun h71 => ?_)
                    · skip
                      refine pz_G_of pz_b228_233 ?_
                      refine w_iinc rfl rfl (ls' := [some (.inr (.inl 2)), some (.inr (.inl 154)), some (.inl (1)), some (.inl (p + 1)), some (.inl (c_failure k1 p)), some (.inl (c_play k1 p)), some (.inl (0))]) rfl ⟨by omega, by omega⟩ ?_
                      refine w_goto ?_
                      exfalso
                      omega
                    · skip
                      refine w_loc rfl ?_
                      refine w_zlt (fun h72 => ?_) (fun h72 => absurd h72 (by omega))
                      refine pz_G_of pz_b228_233 ?_
                      refine w_iinc rfl rfl (ls' := [some (.inr (.inl 2)), some (.inr (.inl 154)), some (.inl (1)), some (.inl (p + 1)), some (.inl (c_failure k1 p)), some (.inl (c_play k1 p)), some (.inl (0))]) rfl ⟨by omega, by omega⟩ ?_
                      refine w_goto ?_
                      exfalso
                      omega
                  · skip
                    refine w_loc rfl ?_
                    refine w_zlt (fun h73 => ?_) (fun h73 => absurd h73 (by omega))
                    refine pz_G_of pz_b228_189 ?_
                    refine w_pure rfl ?_
                    refine w_loc (ls' := [some (.inr (.inl 2)), some (.inr (.inl 154)), some (.inl (1)), some (.inl (p)), some (.inl (c_failure k1 p)), some (.inl (c_play k1 p)), some (.inl (0))]) (st' := []) rfl ?_
                    refine w_nil ?_
                    refine pz_G_of pz_b228_192 ?_
                    refine w_loc rfl ?_
                    refine w_loc rfl ?_
                    refine w_pure rfl ?_
                    refine w_iald is_154 ln_154 ⟨by omega, by omega⟩ (t_I_d0 hI39 hd2) ?_
                    refine w_ige (fun h74 => ?_) (fun h74 => ?_)
                    · skip
                      refine pz_G_of pz_b228_233 ?_
                      refine w_iinc rfl rfl (ls' := [some (.inr (.inl 2)), some (.inr (.inl 154)), some (.inl (1)), some (.inl (p + 1)), some (.inl (c_failure k1 p)), some (.inl (c_play k1 p)), some (.inl (0))]) rfl ⟨by omega, by omega⟩ ?_
                      refine w_goto ?_
                      exfalso
                      omega
                    · skip
                      refine w_loc rfl ?_
                      refine w_zlt (fun h75 => ?_) (fun h75 => absurd h75 (by omega))
                      refine pz_G_of pz_b228_233 ?_
                      refine w_iinc rfl rfl (ls' := [some (.inr (.inl 2)), some (.inr (.inl 154)), some (.inl (1)), some (.inl (p + 1)), some (.inl (c_failure k1 p)), some (.inl (c_play k1 p)), some (.inl (0))]) rfl ⟨by omega, by omega⟩ ?_
                      refine w_goto ?_
                      exfalso
                      omega
                · skip
                  refine w_pure rfl ?_
                  refine w_goto ?_
                  refine pz_G_of pz_b228_85 ?_
                  refine w_loc rfl ?_
                  refine w_zlt (fun h76 => ?_) (fun h76 => absurd h76 (by omega))
                  refine pz_G_of pz_b228_94 ?_
                  refine w_pure rfl ?_
                  refine w_nil ?_
                  refine pz_G_of pz_b228_95 ?_
                  refine w_ieq (fun h77 => absurd h77 (by omega)) (fun h77 => ?_)
                  refine w_pure rfl ?_
                  exfalso
                  omega
          · skip
            refine w_loc rfl ?_
            refine w_ldcn ?_
            refine w_ine (fun h78 => ?_) (fun h78 => absurd h78 (by omega))
            refine pz_G_of pz_b228_54 ?_
            refine w_pure rfl ?_
            refine w_nil ?_
            refine pz_G_of pz_b228_55 ?_
            exfalso
            omega
    · skip
      have pe : p = q_p2 (k 2) := by omega
      have ik : c_isKept k1 = kp := by rw [f_W_kept hk hW, f_kept1 pb, hkp, pe]
      have fr : c_failure k1 (pz_shl 1 (k1 2)) = -99991001 := by rw [sh, ← z2]; exact f_faR
      refine pz_G_of pz_b228_4 ?_
      refine w_loc rfl ?_
      refine w_pure rfl ?_
      refine w_loc rfl ?_
      refine w_pure rfl ?_
      refine w_iald is_154 ln_154 ⟨by omega, by omega⟩ (t_I_d2 hI hd1) ?_
      refine w_ishl ?_
      refine w_ige (fun hh => ?_) (fun hh => absurd hh (by omega))
      refine pz_G_of pz_b228_239 ?_
      refine w_loc rfl ?_
      refine w_callO (t_S_isKept hI) rfl rfl (fun iv79 dv80 cc81 ss82 hI83 hc84 hs85 => ?_)
      refine w_pure rfl ?_
      refine w_ine (fun h86 => ?_) (fun h86 => ?_)
      · skip
        refine pz_G_of pz_b228_251 ?_
        refine w_pure rfl ?_
        refine w_nil ?_
        refine pz_G_of pz_b228_252 ?_
        refine w_loc rfl ?_
        refine w_ine (fun h87 => ?_) (fun h87 => ?_)
        · skip
          refine pz_G_of pz_b228_274 ?_
          refine w_pure rfl ?_
          refine w_nil ?_
          refine pz_G_of pz_b228_275 ?_
          exfalso
          omega
        · skip
          refine w_loc rfl ?_
          refine w_pure rfl ?_
          refine w_loc rfl ?_
          refine w_pure rfl ?_
          refine w_iald is_154 ln_154 ⟨by omega, by omega⟩ (t_I_d2 hI83 hd1) ?_
          refine w_ishl ?_
          refine w_callO (t_S_failure (p := pz_shl 1 (k1 2)) hI83) rfl rfl (fun iv88 dv89 cc90 ss91 hI92 hc93 hs94 => ?_)
          refine w_ldcn ?_
          refine w_ine (fun h95 => ?_) (fun h95 => ?_)
          · skip
            refine pz_G_of pz_b228_274 ?_
            refine w_pure rfl ?_
            refine w_nil ?_
            refine pz_G_of pz_b228_275 ?_
            exfalso
            omega
          · skip
            refine w_pure rfl ?_
            refine w_goto ?_
            refine pz_G_of pz_b228_275 ?_
            refine w_ret rfl ?_
            exact ⟨_, _, _, _, rfl, rfl, by omega, by omega, k1, hW, hI92⟩
      · skip
        refine w_pure rfl ?_
        refine w_goto ?_
        refine pz_G_of pz_b228_252 ?_
        refine w_loc rfl ?_
        refine w_ine (fun h96 => ?_) (fun h96 => ?_)
        · skip
          refine pz_G_of pz_b228_274 ?_
          refine w_pure rfl ?_
          refine w_nil ?_
          refine pz_G_of pz_b228_275 ?_
          exfalso
          omega
        · skip
          refine w_loc rfl ?_
          refine w_pure rfl ?_
          refine w_loc rfl ?_
          refine w_pure rfl ?_
          refine w_iald is_154 ln_154 ⟨by omega, by omega⟩ (t_I_d2 hI83 hd1) ?_
          refine w_ishl ?_
          refine w_callO (t_S_failure (p := pz_shl 1 (k1 2)) hI83) rfl rfl (fun iv97 dv98 cc99 ss100 hI101 hc102 hs103 => ?_)
          refine w_ldcn ?_
          refine w_ine (fun h104 => ?_) (fun h104 => ?_)
          · skip
            refine pz_G_of pz_b228_274 ?_
            refine w_pure rfl ?_
            refine w_nil ?_
            refine pz_G_of pz_b228_275 ?_
            exfalso
            omega
          · skip
            refine w_pure rfl ?_
            refine w_goto ?_
            refine pz_G_of pz_b228_275 ?_
            refine w_ret rfl ?_
            exact ⟨_, _, _, _, rfl, rfl, by omega, by omega, k1, hW, hI101⟩
theorem t_L_plays {L : Nat} {sc k d kf : Nat → Int} {n : Int} {iv : Nat → Nat → Int} (hI : t_I sc k d n kf iv) (hd : t_d k d) : t_O L 228 [.inr (.inl 2), .inr (.inl 154)] iv (.inl 1) 400 (fun iv9 => ∃ k9, t_W k k9 ∧ t_I sc k9 d n kf iv9) := by
  intro dv cc ss
  have hk := hI.2.1
  have h0 := hk.r0
  have pr := q_p2_r (a := k 2) (by omega) (by omega)
  have p8 := q_p2_le (a := k 2) (b := 3) (by omega) (by omega)
  have p83 : q_p2 3 = 8 := rfl
  have sh : pz_shl 1 (k 2) = q_p2 (k 2) := q_shl_p2 (by omega) (by omega)
  show pz_G 228 0 [some (.inr (.inl 2)), some (.inr (.inl 154)), none, none, none, none, none] [] (pz_Sh L, iv, dv, cc, ss) (t_OP L (.inl 1) 400 (fun iv9 => ∃ k9, t_W k k9 ∧ t_I sc k9 d n kf iv9) cc ss)
  by_cases pb : f_pb k
  · skip
    refine pz_G_of pz_b228_0 ?_
    refine w_pure rfl ?_
    refine w_loc (ls' := [some (.inr (.inl 2)), some (.inr (.inl 154)), some (.inl (1)), none, none, none, none]) (st' := []) rfl ?_
    refine w_pure rfl ?_
    refine w_loc (ls' := [some (.inr (.inl 2)), some (.inr (.inl 154)), some (.inl (1)), some (.inl (0)), none, none, none]) (st' := []) rfl ?_
    refine w_nil ?_
    exact t_pl_p hd hk pb (q_p2 (k 2) + 1).toNat 0 1 k _ _ _ _ _ _ _ (by omega) (by omega) (by omega) (q_all_0 (Int.le_refl 0)) (fun _ _ => rfl) hI (by omega) (by omega)
  · skip
    rcases f_fp (k := k) (p := 0) ⟨Int.le_refl 0, by omega⟩ with ⟨-, g1, g2⟩ | ⟨g, -⟩ | ⟨g, -⟩
    · skip
      refine pz_G_of pz_b228_0 ?_
      refine w_pure rfl ?_
      refine w_loc (ls' := [some (.inr (.inl 2)), some (.inr (.inl 154)), some (.inl (1)), none, none, none, none]) (st' := []) rfl ?_
      refine w_pure rfl ?_
      refine w_loc (ls' := [some (.inr (.inl 2)), some (.inr (.inl 154)), some (.inl (1)), some (.inl (0)), none, none, none]) (st' := []) rfl ?_
      refine w_nil ?_
      refine pz_G_of pz_b228_4 ?_
      refine w_loc rfl ?_
      refine w_pure rfl ?_
      refine w_loc rfl ?_
      refine w_pure rfl ?_
      refine w_iald is_154 ln_154 ⟨by omega, by omega⟩ (t_I_d2 hI hd) ?_
      refine w_ishl ?_
      refine w_ige (fun h1 => ?_) (fun h1 => ?_)
      · skip
        exfalso
        omega
      · skip
        refine w_loc rfl ?_
        refine w_loc rfl ?_
        refine w_callO (t_S_failure (p := 0) hI) rfl rfl (fun iv2 dv3 cc4 ss5 hI6 hc7 hs8 => ?_)
        refine w_loc (ls' := [some (.inr (.inl 2)), some (.inr (.inl 154)), some (.inl (1)), some (.inl (0)), some (.inl (c_failure k 0)), none, none]) (st' := []) rfl ?_
        refine w_loc rfl ?_
        refine w_loc rfl ?_
        refine w_callO (t_S_play (p := 0) hI6) rfl rfl (fun iv9 dv10 cc11 ss12 hI13 hc14 hs15 => ?_)
        have hW1 : t_W k (k_play k 0) := f_W_kpl (a := fun _ => 0)
        have ik : c_isKept (k_play k 0) = -99991001 := (f_W_kept hk hW1).trans (f_kept0 pb)
        generalize k_play k 0 = k2 at hI13 hW1 ik
        have hd2 : t_d k2 d := t_d_ag hk hd (fun j hj => hW1 j (by omega))
        refine w_loc (ls' := [some (.inr (.inl 2)), some (.inr (.inl 154)), some (.inl (1)), some (.inl (0)), some (.inl (c_failure k 0)), some (.inl (c_play k 0)), none]) (st' := []) rfl ?_
        refine w_loc rfl ?_
        refine w_ldcn ?_
        refine w_ine (fun h16 => absurd h16 (by omega)) (fun h16 => ?_)
        refine w_loc rfl ?_
        refine w_ldcn ?_
        refine w_ine (fun h17 => absurd h17 (by omega)) (fun h17 => ?_)
        refine w_loc rfl ?_
        refine w_callO (t_S_isKept hI13) rfl rfl (fun iv18 dv19 cc20 ss21 hI22 hc23 hs24 => ?_)
        refine w_ldcn ?_
        refine w_ine (fun h25 => absurd h25 (by omega)) (fun h25 => ?_)
        refine w_pure rfl ?_
        refine w_goto ?_
        refine pz_G_of pz_b228_55 ?_
        refine w_ret rfl ?_
        exact ⟨_, _, _, _, rfl, rfl, by omega, by omega, k2, hW1, hI22⟩
    · exact absurd g pb
    · exact absurd g pb
