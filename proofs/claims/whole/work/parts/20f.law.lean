/-! the law's cases: each goes on behind it, whatever was told or thrown -/
theorem t_L0 {L cc ss : Nat} {sc : Nat → Int} {iv : Nat → Nat → Int} {dv : Nat → Nat → UInt64} {i : Int} {u6 u7 u8 : Option pz_V} {Q : pz_Q} (hi : 0 ≤ i ∧ i + 5 ≤ L ∧ L ≤ 2560) (h1 : iv 1 = sc) (hQ : t_Q t_Bi sc L 123 197 t_Vi t_Vi (pz_hc 303) [] iv) (K : ∀ iv2 dv2 x (v6 v7 v8 : Option pz_V), x ≤ 1 → t_I sc iv2 → pz_G 344 2797 [some (.inr (.inl 1)), some (.inr (.inl 2)), some (.inr (.inl 154)), some (.inr (.inl 164)), some (.inr (.inl 165)), some (.inl i), v6, v7, v8] [] (pz_Sh L, iv2, dv2, cc + x, ss + 6 * x) Q) : pz_G 344 248 [some (.inr (.inl 1)), some (.inr (.inl 2)), some (.inr (.inl 154)), some (.inr (.inl 164)), some (.inr (.inl 165)), some (.inl i), u6, u7, u8] [] (pz_Sh L, iv, dv, cc, ss) Q := by
  obtain ⟨o, Φ, b, c, hb, hr, ho, hn⟩ := hQ
  refine pz_G_of pz_b344_248 ?_
  refine w_loc rfl ?_
  refine w_loc rfl ?_
  refine w_callW (t_w303 hr ho) rfl rfl (fun iv1 dv1 x hx hp => ?_)
  obtain ⟨iv0, hp0, y, e0, hy⟩ := hp
  subst e0
  obtain ⟨e1, hx2⟩ := hn iv0 hp0
  obtain ⟨iv2, hr2, e2, e3, hI⟩ := hx2 y
  refine w_loc rfl ?_
  refine w_loc rfl ?_
  refine w_call hr2 rfl (pz_cokI is_154 rfl) ?_
  refine w_loc rfl ?_
  refine w_loc rfl ?_
  refine w_call s_X11_thrown rfl (pz_cokI is_154 rfl) ?_
  refine w_loc rfl ?_
  refine w_ieq (fun _ => ?_) (fun q => absurd e3 q)
  refine pz_G_of pz_b344_272 ?_
  refine w_loc rfl ?_
  refine w_zne (fun _ => ?_) (fun hc => ?_)
  · skip
    refine pz_G_of pz_b344_289 ?_
    refine w_goto ?_
    exact K iv2 dv1 x _ _ _ hx hI
  · skip
    have hv : iv2 164 0 = b := by rw [e2]; exact hy (by omega)
    refine w_loc rfl ?_
    refine w_pure rfl ?_
    refine w_lald (v := iv2 164 0) is_164 ln_164 ⟨by decide, by decide⟩ rfl ?_
    refine w_loc rfl ?_
    refine w_pure rfl ?_
    refine w_lcmp hv ?_
    refine w_zeq (fun _ => ?_) (fun q => absurd rfl q)
    refine pz_G_of pz_b344_289 ?_
    refine w_goto ?_
    exact K iv2 dv1 x _ _ _ hx hI
theorem t_L1 {L cc ss : Nat} {sc : Nat → Int} {iv : Nat → Nat → Int} {dv : Nat → Nat → UInt64} {i : Int} {u6 u7 u8 : Option pz_V} {Q : pz_Q} (hi : 0 ≤ i ∧ i + 5 ≤ L ∧ L ≤ 2560) (h1 : iv 1 = sc) (hQ : t_Q t_Bi sc L 124 199 t_Vi t_Vi (pz_hc 304) [.inl (sc (i + 1).toNat), .inl (sc (i + 2).toNat), .inl (sc (i + 3).toNat), .inl (sc (i + 4).toNat)] iv) (K : ∀ iv2 dv2 x (v6 v7 v8 : Option pz_V), x ≤ 1 → t_I sc iv2 → pz_G 344 2797 [some (.inr (.inl 1)), some (.inr (.inl 2)), some (.inr (.inl 154)), some (.inr (.inl 164)), some (.inr (.inl 165)), some (.inl i), v6, v7, v8] [] (pz_Sh L, iv2, dv2, cc + x, ss + 6 * x) Q) : pz_G 344 292 [some (.inr (.inl 1)), some (.inr (.inl 2)), some (.inr (.inl 154)), some (.inr (.inl 164)), some (.inr (.inl 165)), some (.inl i), u6, u7, u8] [] (pz_Sh L, iv, dv, cc, ss) Q := by
  obtain ⟨o, Φ, b, c, hb, hr, ho, hn⟩ := hQ
  refine pz_G_of pz_b344_292 ?_
  refine w_loc rfl ?_
  refine w_loc rfl ?_
  refine w_loc rfl ?_
  refine w_pure rfl ?_
  refine w_iadd (by omega) ?_
  refine w_sald (len := L) (v := sc (i + 1).toNat) rfl ⟨by omega, by omega⟩ (by rw [h1]) ?_
  refine w_loc rfl ?_
  refine w_loc rfl ?_
  refine w_pure rfl ?_
  refine w_iadd (by omega) ?_
  refine w_sald (len := L) (v := sc (i + 2).toNat) rfl ⟨by omega, by omega⟩ (by rw [h1]) ?_
  refine w_loc rfl ?_
  refine w_loc rfl ?_
  refine w_pure rfl ?_
  refine w_iadd (by omega) ?_
  refine w_sald (len := L) (v := sc (i + 3).toNat) rfl ⟨by omega, by omega⟩ (by rw [h1]) ?_
  refine w_loc rfl ?_
  refine w_loc rfl ?_
  refine w_pure rfl ?_
  refine w_iadd (by omega) ?_
  refine w_sald (len := L) (v := sc (i + 4).toNat) rfl ⟨by omega, by omega⟩ (by rw [h1]) ?_
  refine w_loc rfl ?_
  refine w_callW (t_w304 hr ho) rfl rfl (fun iv1 dv1 x hx hp => ?_)
  obtain ⟨iv0, hp0, y, e0, hy⟩ := hp
  subst e0
  obtain ⟨e1, hx2⟩ := hn iv0 hp0
  obtain ⟨iv2, hr2, e2, e3, hI⟩ := hx2 y
  refine w_loc rfl ?_
  refine w_loc rfl ?_
  refine w_loc rfl ?_
  refine w_loc rfl ?_
  refine w_pure rfl ?_
  refine w_iadd (by omega) ?_
  refine w_sald (len := L) (v := sc (i + 1).toNat) rfl ⟨by omega, by omega⟩ (by show iv0 1 _ = _; rw [e1]) ?_
  refine w_loc rfl ?_
  refine w_loc rfl ?_
  refine w_pure rfl ?_
  refine w_iadd (by omega) ?_
  refine w_sald (len := L) (v := sc (i + 2).toNat) rfl ⟨by omega, by omega⟩ (by show iv0 1 _ = _; rw [e1]) ?_
  refine w_loc rfl ?_
  refine w_loc rfl ?_
  refine w_pure rfl ?_
  refine w_iadd (by omega) ?_
  refine w_sald (len := L) (v := sc (i + 3).toNat) rfl ⟨by omega, by omega⟩ (by show iv0 1 _ = _; rw [e1]) ?_
  refine w_loc rfl ?_
  refine w_loc rfl ?_
  refine w_pure rfl ?_
  refine w_iadd (by omega) ?_
  refine w_sald (len := L) (v := sc (i + 4).toNat) rfl ⟨by omega, by omega⟩ (by show iv0 1 _ = _; rw [e1]) ?_
  refine w_call hr2 rfl (pz_cokI is_154 rfl) ?_
  refine w_loc rfl ?_
  refine w_loc rfl ?_
  refine w_call s_X11_thrown rfl (pz_cokI is_154 rfl) ?_
  refine w_loc rfl ?_
  refine w_ieq (fun _ => ?_) (fun q => absurd e3 q)
  refine pz_G_of pz_b344_364 ?_
  refine w_loc rfl ?_
  refine w_zne (fun _ => ?_) (fun hc => ?_)
  · skip
    refine pz_G_of pz_b344_381 ?_
    refine w_goto ?_
    exact K iv2 dv1 x _ _ _ hx hI
  · skip
    have hv : iv2 164 0 = b := by rw [e2]; exact hy (by omega)
    refine w_loc rfl ?_
    refine w_pure rfl ?_
    refine w_lald (v := iv2 164 0) is_164 ln_164 ⟨by decide, by decide⟩ rfl ?_
    refine w_loc rfl ?_
    refine w_pure rfl ?_
    refine w_lcmp hv ?_
    refine w_zeq (fun _ => ?_) (fun q => absurd rfl q)
    refine pz_G_of pz_b344_381 ?_
    refine w_goto ?_
    exact K iv2 dv1 x _ _ _ hx hI
theorem t_L2 {L cc ss : Nat} {sc : Nat → Int} {iv : Nat → Nat → Int} {dv : Nat → Nat → UInt64} {i : Int} {u6 u7 u8 : Option pz_V} {Q : pz_Q} (hi : 0 ≤ i ∧ i + 5 ≤ L ∧ L ≤ 2560) (h1 : iv 1 = sc) (hQ : t_Q t_Bi sc L 125 205 t_Vi t_Vi (pz_hc 305) [.inl (sc (i + 1).toNat)] iv) (K : ∀ iv2 dv2 x (v6 v7 v8 : Option pz_V), x ≤ 1 → t_I sc iv2 → pz_G 344 2797 [some (.inr (.inl 1)), some (.inr (.inl 2)), some (.inr (.inl 154)), some (.inr (.inl 164)), some (.inr (.inl 165)), some (.inl i), v6, v7, v8] [] (pz_Sh L, iv2, dv2, cc + x, ss + 6 * x) Q) : pz_G 344 384 [some (.inr (.inl 1)), some (.inr (.inl 2)), some (.inr (.inl 154)), some (.inr (.inl 164)), some (.inr (.inl 165)), some (.inl i), u6, u7, u8] [] (pz_Sh L, iv, dv, cc, ss) Q := by
  obtain ⟨o, Φ, b, c, hb, hr, ho, hn⟩ := hQ
  refine pz_G_of pz_b344_384 ?_
  refine w_loc rfl ?_
  refine w_loc rfl ?_
  refine w_loc rfl ?_
  refine w_pure rfl ?_
  refine w_iadd (by omega) ?_
  refine w_sald (len := L) (v := sc (i + 1).toNat) rfl ⟨by omega, by omega⟩ (by rw [h1]) ?_
  refine w_loc rfl ?_
  refine w_callW (t_w305 hr ho) rfl rfl (fun iv1 dv1 x hx hp => ?_)
  obtain ⟨iv0, hp0, y, e0, hy⟩ := hp
  subst e0
  obtain ⟨e1, hx2⟩ := hn iv0 hp0
  obtain ⟨iv2, hr2, e2, e3, hI⟩ := hx2 y
  refine w_loc rfl ?_
  refine w_loc rfl ?_
  refine w_loc rfl ?_
  refine w_loc rfl ?_
  refine w_pure rfl ?_
  refine w_iadd (by omega) ?_
  refine w_sald (len := L) (v := sc (i + 1).toNat) rfl ⟨by omega, by omega⟩ (by show iv0 1 _ = _; rw [e1]) ?_
  refine w_call hr2 rfl (pz_cokI is_154 rfl) ?_
  refine w_loc rfl ?_
  refine w_loc rfl ?_
  refine w_call s_X11_thrown rfl (pz_cokI is_154 rfl) ?_
  refine w_loc rfl ?_
  refine w_ieq (fun _ => ?_) (fun q => absurd e3 q)
  refine pz_G_of pz_b344_420 ?_
  refine w_loc rfl ?_
  refine w_zne (fun _ => ?_) (fun hc => ?_)
  · skip
    refine pz_G_of pz_b344_437 ?_
    refine w_goto ?_
    exact K iv2 dv1 x _ _ _ hx hI
  · skip
    have hv : iv2 164 0 = b := by rw [e2]; exact hy (by omega)
    refine w_loc rfl ?_
    refine w_pure rfl ?_
    refine w_lald (v := iv2 164 0) is_164 ln_164 ⟨by decide, by decide⟩ rfl ?_
    refine w_loc rfl ?_
    refine w_pure rfl ?_
    refine w_lcmp hv ?_
    refine w_zeq (fun _ => ?_) (fun q => absurd rfl q)
    refine pz_G_of pz_b344_437 ?_
    refine w_goto ?_
    exact K iv2 dv1 x _ _ _ hx hI
theorem t_L3 {L cc ss : Nat} {sc : Nat → Int} {iv : Nat → Nat → Int} {dv : Nat → Nat → UInt64} {i : Int} {u6 u7 u8 : Option pz_V} {Q : pz_Q} (hi : 0 ≤ i ∧ i + 5 ≤ L ∧ L ≤ 2560) (h1 : iv 1 = sc) (hQ : t_Q t_Bi sc L 126 212 t_Vi t_Vi (pz_hc 306) [.inl (sc (i + 1).toNat), .inl (sc (i + 2).toNat), .inl (sc (i + 3).toNat), .inl (sc (i + 4).toNat)] iv) (K : ∀ iv2 dv2 x (v6 v7 v8 : Option pz_V), x ≤ 1 → t_I sc iv2 → pz_G 344 2797 [some (.inr (.inl 1)), some (.inr (.inl 2)), some (.inr (.inl 154)), some (.inr (.inl 164)), some (.inr (.inl 165)), some (.inl i), v6, v7, v8] [] (pz_Sh L, iv2, dv2, cc + x, ss + 6 * x) Q) : pz_G 344 440 [some (.inr (.inl 1)), some (.inr (.inl 2)), some (.inr (.inl 154)), some (.inr (.inl 164)), some (.inr (.inl 165)), some (.inl i), u6, u7, u8] [] (pz_Sh L, iv, dv, cc, ss) Q := by
  obtain ⟨o, Φ, b, c, hb, hr, ho, hn⟩ := hQ
  refine pz_G_of pz_b344_440 ?_
  refine w_loc rfl ?_
  refine w_loc rfl ?_
  refine w_loc rfl ?_
  refine w_pure rfl ?_
  refine w_iadd (by omega) ?_
  refine w_sald (len := L) (v := sc (i + 1).toNat) rfl ⟨by omega, by omega⟩ (by rw [h1]) ?_
  refine w_loc rfl ?_
  refine w_loc rfl ?_
  refine w_pure rfl ?_
  refine w_iadd (by omega) ?_
  refine w_sald (len := L) (v := sc (i + 2).toNat) rfl ⟨by omega, by omega⟩ (by rw [h1]) ?_
  refine w_loc rfl ?_
  refine w_loc rfl ?_
  refine w_pure rfl ?_
  refine w_iadd (by omega) ?_
  refine w_sald (len := L) (v := sc (i + 3).toNat) rfl ⟨by omega, by omega⟩ (by rw [h1]) ?_
  refine w_loc rfl ?_
  refine w_loc rfl ?_
  refine w_pure rfl ?_
  refine w_iadd (by omega) ?_
  refine w_sald (len := L) (v := sc (i + 4).toNat) rfl ⟨by omega, by omega⟩ (by rw [h1]) ?_
  refine w_loc rfl ?_
  refine w_callW (t_w306 hr ho) rfl rfl (fun iv1 dv1 x hx hp => ?_)
  obtain ⟨iv0, hp0, y, e0, hy⟩ := hp
  subst e0
  obtain ⟨e1, hx2⟩ := hn iv0 hp0
  obtain ⟨iv2, hr2, e2, e3, hI⟩ := hx2 y
  refine w_loc rfl ?_
  refine w_loc rfl ?_
  refine w_loc rfl ?_
  refine w_loc rfl ?_
  refine w_pure rfl ?_
  refine w_iadd (by omega) ?_
  refine w_sald (len := L) (v := sc (i + 1).toNat) rfl ⟨by omega, by omega⟩ (by show iv0 1 _ = _; rw [e1]) ?_
  refine w_loc rfl ?_
  refine w_loc rfl ?_
  refine w_pure rfl ?_
  refine w_iadd (by omega) ?_
  refine w_sald (len := L) (v := sc (i + 2).toNat) rfl ⟨by omega, by omega⟩ (by show iv0 1 _ = _; rw [e1]) ?_
  refine w_loc rfl ?_
  refine w_loc rfl ?_
  refine w_pure rfl ?_
  refine w_iadd (by omega) ?_
  refine w_sald (len := L) (v := sc (i + 3).toNat) rfl ⟨by omega, by omega⟩ (by show iv0 1 _ = _; rw [e1]) ?_
  refine w_loc rfl ?_
  refine w_loc rfl ?_
  refine w_pure rfl ?_
  refine w_iadd (by omega) ?_
  refine w_sald (len := L) (v := sc (i + 4).toNat) rfl ⟨by omega, by omega⟩ (by show iv0 1 _ = _; rw [e1]) ?_
  refine w_call hr2 rfl (pz_cokI is_154 rfl) ?_
  refine w_loc rfl ?_
  refine w_loc rfl ?_
  refine w_call s_X11_thrown rfl (pz_cokI is_154 rfl) ?_
  refine w_loc rfl ?_
  refine w_ieq (fun _ => ?_) (fun q => absurd e3 q)
  refine pz_G_of pz_b344_512 ?_
  refine w_loc rfl ?_
  refine w_zne (fun _ => ?_) (fun hc => ?_)
  · skip
    refine pz_G_of pz_b344_529 ?_
    refine w_goto ?_
    exact K iv2 dv1 x _ _ _ hx hI
  · skip
    have hv : iv2 164 0 = b := by rw [e2]; exact hy (by omega)
    refine w_loc rfl ?_
    refine w_pure rfl ?_
    refine w_lald (v := iv2 164 0) is_164 ln_164 ⟨by decide, by decide⟩ rfl ?_
    refine w_loc rfl ?_
    refine w_pure rfl ?_
    refine w_lcmp hv ?_
    refine w_zeq (fun _ => ?_) (fun q => absurd rfl q)
    refine pz_G_of pz_b344_529 ?_
    refine w_goto ?_
    exact K iv2 dv1 x _ _ _ hx hI
theorem t_L4t {L cc ss : Nat} {sc : Nat → Int} {iv : Nat → Nat → Int} {dv : Nat → Nat → UInt64} {i : Int} {u6 u7 u8 : Option pz_V} {Q : pz_Q} (hi : 0 ≤ i ∧ i + 5 ≤ L ∧ L ≤ 2560) (h1 : iv 1 = sc) (hz : sc (i + 2).toNat ≠ 0) (hQ : t_Q t_Bi sc L 127 215 t_Vi t_Vi (pz_hc 307) [.inl (sc (i + 1).toNat), .inl 1] iv) (K : ∀ iv2 dv2 x (v6 v7 v8 : Option pz_V), x ≤ 1 → t_I sc iv2 → pz_G 344 2797 [some (.inr (.inl 1)), some (.inr (.inl 2)), some (.inr (.inl 154)), some (.inr (.inl 164)), some (.inr (.inl 165)), some (.inl i), v6, v7, v8] [] (pz_Sh L, iv2, dv2, cc + x, ss + 6 * x) Q) : pz_G 344 532 [some (.inr (.inl 1)), some (.inr (.inl 2)), some (.inr (.inl 154)), some (.inr (.inl 164)), some (.inr (.inl 165)), some (.inl i), u6, u7, u8] [] (pz_Sh L, iv, dv, cc, ss) Q := by
  obtain ⟨o, Φ, b, c, hb, hr, ho, hn⟩ := hQ
  refine pz_G_of pz_b344_532 ?_
  refine w_loc rfl ?_
  refine w_loc rfl ?_
  refine w_loc rfl ?_
  refine w_pure rfl ?_
  refine w_iadd (by omega) ?_
  refine w_sald (len := L) (v := sc (i + 1).toNat) rfl ⟨by omega, by omega⟩ (by rw [h1]) ?_
  refine w_loc rfl ?_
  refine w_loc rfl ?_
  refine w_pure rfl ?_
  refine w_iadd (by omega) ?_
  refine w_sald (len := L) (v := sc (i + 2).toNat) rfl ⟨by omega, by omega⟩ (by rw [h1]) ?_
  refine w_zeq (fun q => absurd q hz) (fun _ => ?_)
  refine w_pure rfl ?_
  refine w_goto ?_
  refine pz_G_of pz_b344_553 ?_
  refine w_loc rfl ?_
  refine w_callW (t_w307 hr ho) rfl rfl (fun iv1 dv1 x hx hp => ?_)
  obtain ⟨iv0, hp0, y, e0, hy⟩ := hp
  subst e0
  obtain ⟨e1, hx2⟩ := hn iv0 hp0
  obtain ⟨iv2, hr2, e2, e3, hI⟩ := hx2 y
  refine w_loc rfl ?_
  refine w_loc rfl ?_
  refine w_loc rfl ?_
  refine w_loc rfl ?_
  refine w_pure rfl ?_
  refine w_iadd (by omega) ?_
  refine w_sald (len := L) (v := sc (i + 1).toNat) rfl ⟨by omega, by omega⟩ (by show iv0 1 _ = _; rw [e1]) ?_
  refine w_loc rfl ?_
  refine w_loc rfl ?_
  refine w_pure rfl ?_
  refine w_iadd (by omega) ?_
  refine w_sald (len := L) (v := sc (i + 2).toNat) rfl ⟨by omega, by omega⟩ (by show iv0 1 _ = _; rw [e1]) ?_
  refine w_zeq (fun q => absurd q hz) (fun _ => ?_)
  refine w_pure rfl ?_
  refine w_goto ?_
  refine pz_G_of pz_b344_580 ?_
  refine w_call hr2 rfl (pz_cokI is_154 rfl) ?_
  refine w_loc rfl ?_
  refine w_loc rfl ?_
  refine w_call s_X11_thrown rfl (pz_cokI is_154 rfl) ?_
  refine w_loc rfl ?_
  refine w_ieq (fun _ => ?_) (fun q => absurd e3 q)
  refine pz_G_of pz_b344_596 ?_
  refine w_loc rfl ?_
  refine w_zne (fun _ => ?_) (fun hc => ?_)
  · skip
    refine pz_G_of pz_b344_613 ?_
    refine w_goto ?_
    exact K iv2 dv1 x _ _ _ hx hI
  · skip
    have hv : iv2 164 0 = b := by rw [e2]; exact hy (by omega)
    refine w_loc rfl ?_
    refine w_pure rfl ?_
    refine w_lald (v := iv2 164 0) is_164 ln_164 ⟨by decide, by decide⟩ rfl ?_
    refine w_loc rfl ?_
    refine w_pure rfl ?_
    refine w_lcmp hv ?_
    refine w_zeq (fun _ => ?_) (fun q => absurd rfl q)
    refine pz_G_of pz_b344_613 ?_
    refine w_goto ?_
    exact K iv2 dv1 x _ _ _ hx hI
theorem t_L4f {L cc ss : Nat} {sc : Nat → Int} {iv : Nat → Nat → Int} {dv : Nat → Nat → UInt64} {i : Int} {u6 u7 u8 : Option pz_V} {Q : pz_Q} (hi : 0 ≤ i ∧ i + 5 ≤ L ∧ L ≤ 2560) (h1 : iv 1 = sc) (hz : sc (i + 2).toNat = 0) (hQ : t_Q t_Bi sc L 127 215 t_Vi t_Vi (pz_hc 307) [.inl (sc (i + 1).toNat), .inl 0] iv) (K : ∀ iv2 dv2 x (v6 v7 v8 : Option pz_V), x ≤ 1 → t_I sc iv2 → pz_G 344 2797 [some (.inr (.inl 1)), some (.inr (.inl 2)), some (.inr (.inl 154)), some (.inr (.inl 164)), some (.inr (.inl 165)), some (.inl i), v6, v7, v8] [] (pz_Sh L, iv2, dv2, cc + x, ss + 6 * x) Q) : pz_G 344 532 [some (.inr (.inl 1)), some (.inr (.inl 2)), some (.inr (.inl 154)), some (.inr (.inl 164)), some (.inr (.inl 165)), some (.inl i), u6, u7, u8] [] (pz_Sh L, iv, dv, cc, ss) Q := by
  obtain ⟨o, Φ, b, c, hb, hr, ho, hn⟩ := hQ
  refine pz_G_of pz_b344_532 ?_
  refine w_loc rfl ?_
  refine w_loc rfl ?_
  refine w_loc rfl ?_
  refine w_pure rfl ?_
  refine w_iadd (by omega) ?_
  refine w_sald (len := L) (v := sc (i + 1).toNat) rfl ⟨by omega, by omega⟩ (by rw [h1]) ?_
  refine w_loc rfl ?_
  refine w_loc rfl ?_
  refine w_pure rfl ?_
  refine w_iadd (by omega) ?_
  refine w_sald (len := L) (v := sc (i + 2).toNat) rfl ⟨by omega, by omega⟩ (by rw [h1]) ?_
  refine w_zeq (fun _ => ?_) (fun q => absurd hz q)
  refine pz_G_of pz_b344_552 ?_
  refine w_pure rfl ?_
  refine w_nil ?_
  refine pz_G_of pz_b344_553 ?_
  refine w_loc rfl ?_
  refine w_callW (t_w307 hr ho) rfl rfl (fun iv1 dv1 x hx hp => ?_)
  obtain ⟨iv0, hp0, y, e0, hy⟩ := hp
  subst e0
  obtain ⟨e1, hx2⟩ := hn iv0 hp0
  obtain ⟨iv2, hr2, e2, e3, hI⟩ := hx2 y
  refine w_loc rfl ?_
  refine w_loc rfl ?_
  refine w_loc rfl ?_
  refine w_loc rfl ?_
  refine w_pure rfl ?_
  refine w_iadd (by omega) ?_
  refine w_sald (len := L) (v := sc (i + 1).toNat) rfl ⟨by omega, by omega⟩ (by show iv0 1 _ = _; rw [e1]) ?_
  refine w_loc rfl ?_
  refine w_loc rfl ?_
  refine w_pure rfl ?_
  refine w_iadd (by omega) ?_
  refine w_sald (len := L) (v := sc (i + 2).toNat) rfl ⟨by omega, by omega⟩ (by show iv0 1 _ = _; rw [e1]) ?_
  refine w_zeq (fun _ => ?_) (fun q => absurd hz q)
  refine pz_G_of pz_b344_579 ?_
  refine w_pure rfl ?_
  refine w_nil ?_
  refine pz_G_of pz_b344_580 ?_
  refine w_call hr2 rfl (pz_cokI is_154 rfl) ?_
  refine w_loc rfl ?_
  refine w_loc rfl ?_
  refine w_call s_X11_thrown rfl (pz_cokI is_154 rfl) ?_
  refine w_loc rfl ?_
  refine w_ieq (fun _ => ?_) (fun q => absurd e3 q)
  refine pz_G_of pz_b344_596 ?_
  refine w_loc rfl ?_
  refine w_zne (fun _ => ?_) (fun hc => ?_)
  · skip
    refine pz_G_of pz_b344_613 ?_
    refine w_goto ?_
    exact K iv2 dv1 x _ _ _ hx hI
  · skip
    have hv : iv2 164 0 = b := by rw [e2]; exact hy (by omega)
    refine w_loc rfl ?_
    refine w_pure rfl ?_
    refine w_lald (v := iv2 164 0) is_164 ln_164 ⟨by decide, by decide⟩ rfl ?_
    refine w_loc rfl ?_
    refine w_pure rfl ?_
    refine w_lcmp hv ?_
    refine w_zeq (fun _ => ?_) (fun q => absurd rfl q)
    refine pz_G_of pz_b344_613 ?_
    refine w_goto ?_
    exact K iv2 dv1 x _ _ _ hx hI
theorem t_L5 {L cc ss : Nat} {sc : Nat → Int} {iv : Nat → Nat → Int} {dv : Nat → Nat → UInt64} {i : Int} {u6 u7 u8 : Option pz_V} {Q : pz_Q} (hi : 0 ≤ i ∧ i + 5 ≤ L ∧ L ≤ 2560) (h1 : iv 1 = sc) (hQ : t_Q t_Bi sc L 128 217 t_Vi t_Vi (pz_hc 308) [] iv) (K : ∀ iv2 dv2 x (v6 v7 v8 : Option pz_V), x ≤ 1 → t_I sc iv2 → pz_G 344 2797 [some (.inr (.inl 1)), some (.inr (.inl 2)), some (.inr (.inl 154)), some (.inr (.inl 164)), some (.inr (.inl 165)), some (.inl i), v6, v7, v8] [] (pz_Sh L, iv2, dv2, cc + x, ss + 6 * x) Q) : pz_G 344 616 [some (.inr (.inl 1)), some (.inr (.inl 2)), some (.inr (.inl 154)), some (.inr (.inl 164)), some (.inr (.inl 165)), some (.inl i), u6, u7, u8] [] (pz_Sh L, iv, dv, cc, ss) Q := by
  obtain ⟨o, Φ, b, c, hb, hr, ho, hn⟩ := hQ
  refine pz_G_of pz_b344_616 ?_
  refine w_loc rfl ?_
  refine w_loc rfl ?_
  refine w_callW (t_w308 hr ho) rfl rfl (fun iv1 dv1 x hx hp => ?_)
  obtain ⟨iv0, hp0, y, e0, hy⟩ := hp
  subst e0
  obtain ⟨e1, hx2⟩ := hn iv0 hp0
  obtain ⟨iv2, hr2, e2, e3, hI⟩ := hx2 y
  refine w_loc rfl ?_
  refine w_loc rfl ?_
  refine w_call hr2 rfl (pz_cokI is_154 rfl) ?_
  refine w_loc rfl ?_
  refine w_loc rfl ?_
  refine w_call s_X11_thrown rfl (pz_cokI is_154 rfl) ?_
  refine w_loc rfl ?_
  refine w_ieq (fun _ => ?_) (fun q => absurd e3 q)
  refine pz_G_of pz_b344_640 ?_
  refine w_loc rfl ?_
  refine w_zne (fun _ => ?_) (fun hc => ?_)
  · skip
    refine pz_G_of pz_b344_657 ?_
    refine w_goto ?_
    exact K iv2 dv1 x _ _ _ hx hI
  · skip
    have hv : iv2 164 0 = b := by rw [e2]; exact hy (by omega)
    refine w_loc rfl ?_
    refine w_pure rfl ?_
    refine w_lald (v := iv2 164 0) is_164 ln_164 ⟨by decide, by decide⟩ rfl ?_
    refine w_loc rfl ?_
    refine w_pure rfl ?_
    refine w_lcmp hv ?_
    refine w_zeq (fun _ => ?_) (fun q => absurd rfl q)
    refine pz_G_of pz_b344_657 ?_
    refine w_goto ?_
    exact K iv2 dv1 x _ _ _ hx hI
theorem t_L6 {L cc ss : Nat} {sc : Nat → Int} {iv : Nat → Nat → Int} {dv : Nat → Nat → UInt64} {i : Int} {u6 u7 u8 : Option pz_V} {Q : pz_Q} (hi : 0 ≤ i ∧ i + 5 ≤ L ∧ L ≤ 2560) (h1 : iv 1 = sc) (hQ : t_Q t_Bi sc L 129 221 t_Vi t_Vi (pz_hc 309) [.inl (sc (i + 1).toNat)] iv) (K : ∀ iv2 dv2 x (v6 v7 v8 : Option pz_V), x ≤ 1 → t_I sc iv2 → pz_G 344 2797 [some (.inr (.inl 1)), some (.inr (.inl 2)), some (.inr (.inl 154)), some (.inr (.inl 164)), some (.inr (.inl 165)), some (.inl i), v6, v7, v8] [] (pz_Sh L, iv2, dv2, cc + x, ss + 6 * x) Q) : pz_G 344 660 [some (.inr (.inl 1)), some (.inr (.inl 2)), some (.inr (.inl 154)), some (.inr (.inl 164)), some (.inr (.inl 165)), some (.inl i), u6, u7, u8] [] (pz_Sh L, iv, dv, cc, ss) Q := by
  obtain ⟨o, Φ, b, c, hb, hr, ho, hn⟩ := hQ
  refine pz_G_of pz_b344_660 ?_
  refine w_loc rfl ?_
  refine w_loc rfl ?_
  refine w_loc rfl ?_
  refine w_pure rfl ?_
  refine w_iadd (by omega) ?_
  refine w_sald (len := L) (v := sc (i + 1).toNat) rfl ⟨by omega, by omega⟩ (by rw [h1]) ?_
  refine w_loc rfl ?_
  refine w_callW (t_w309 hr ho) rfl rfl (fun iv1 dv1 x hx hp => ?_)
  obtain ⟨iv0, hp0, y, e0, hy⟩ := hp
  subst e0
  obtain ⟨e1, hx2⟩ := hn iv0 hp0
  obtain ⟨iv2, hr2, e2, e3, hI⟩ := hx2 y
  refine w_loc rfl ?_
  refine w_loc rfl ?_
  refine w_loc rfl ?_
  refine w_loc rfl ?_
  refine w_pure rfl ?_
  refine w_iadd (by omega) ?_
  refine w_sald (len := L) (v := sc (i + 1).toNat) rfl ⟨by omega, by omega⟩ (by show iv0 1 _ = _; rw [e1]) ?_
  refine w_call hr2 rfl (pz_cokI is_154 rfl) ?_
  refine w_loc rfl ?_
  refine w_loc rfl ?_
  refine w_call s_X11_thrown rfl (pz_cokI is_154 rfl) ?_
  refine w_loc rfl ?_
  refine w_ieq (fun _ => ?_) (fun q => absurd e3 q)
  refine pz_G_of pz_b344_696 ?_
  refine w_loc rfl ?_
  refine w_zne (fun _ => ?_) (fun hc => ?_)
  · skip
    refine pz_G_of pz_b344_713 ?_
    refine w_goto ?_
    exact K iv2 dv1 x _ _ _ hx hI
  · skip
    have hv : iv2 164 0 = b := by rw [e2]; exact hy (by omega)
    refine w_loc rfl ?_
    refine w_pure rfl ?_
    refine w_lald (v := iv2 164 0) is_164 ln_164 ⟨by decide, by decide⟩ rfl ?_
    refine w_loc rfl ?_
    refine w_pure rfl ?_
    refine w_lcmp hv ?_
    refine w_zeq (fun _ => ?_) (fun q => absurd rfl q)
    refine pz_G_of pz_b344_713 ?_
    refine w_goto ?_
    exact K iv2 dv1 x _ _ _ hx hI
theorem t_L7 {L cc ss : Nat} {sc : Nat → Int} {iv : Nat → Nat → Int} {dv : Nat → Nat → UInt64} {i : Int} {u6 u7 u8 : Option pz_V} {Q : pz_Q} (hi : 0 ≤ i ∧ i + 5 ≤ L ∧ L ≤ 2560) (h1 : iv 1 = sc) (hQ : t_Q t_Bz sc L 130 222 t_Vi t_Vi (pz_hc 310) [.inl (sc (i + 1).toNat), .inl (sc (i + 2).toNat)] iv) (K : ∀ iv2 dv2 x (v6 v7 v8 : Option pz_V), x ≤ 1 → t_I sc iv2 → pz_G 344 2797 [some (.inr (.inl 1)), some (.inr (.inl 2)), some (.inr (.inl 154)), some (.inr (.inl 164)), some (.inr (.inl 165)), some (.inl i), v6, v7, v8] [] (pz_Sh L, iv2, dv2, cc + x, ss + 6 * x) Q) : pz_G 344 716 [some (.inr (.inl 1)), some (.inr (.inl 2)), some (.inr (.inl 154)), some (.inr (.inl 164)), some (.inr (.inl 165)), some (.inl i), u6, u7, u8] [] (pz_Sh L, iv, dv, cc, ss) Q := by
  obtain ⟨o, Φ, b, c, hb, hr, ho, hn⟩ := hQ
  refine pz_G_of pz_b344_716 ?_
  refine w_loc rfl ?_
  refine w_loc rfl ?_
  refine w_loc rfl ?_
  refine w_pure rfl ?_
  refine w_iadd (by omega) ?_
  refine w_sald (len := L) (v := sc (i + 1).toNat) rfl ⟨by omega, by omega⟩ (by rw [h1]) ?_
  refine w_loc rfl ?_
  refine w_loc rfl ?_
  refine w_pure rfl ?_
  refine w_iadd (by omega) ?_
  refine w_sald (len := L) (v := sc (i + 2).toNat) rfl ⟨by omega, by omega⟩ (by rw [h1]) ?_
  refine w_loc rfl ?_
  refine w_callW (t_w310 hr ho hb) rfl rfl (fun iv1 dv1 x hx hp => ?_)
  obtain ⟨iv0, hp0, y, e0, hy⟩ := hp
  subst e0
  obtain ⟨e1, hx2⟩ := hn iv0 hp0
  obtain ⟨iv2, hr2, e2, e3, hI⟩ := hx2 y
  refine w_loc rfl ?_
  refine w_loc rfl ?_
  refine w_loc rfl ?_
  refine w_loc rfl ?_
  refine w_pure rfl ?_
  refine w_iadd (by omega) ?_
  refine w_sald (len := L) (v := sc (i + 1).toNat) rfl ⟨by omega, by omega⟩ (by show iv0 1 _ = _; rw [e1]) ?_
  refine w_loc rfl ?_
  refine w_loc rfl ?_
  refine w_pure rfl ?_
  refine w_iadd (by omega) ?_
  refine w_sald (len := L) (v := sc (i + 2).toNat) rfl ⟨by omega, by omega⟩ (by show iv0 1 _ = _; rw [e1]) ?_
  refine w_call hr2 rfl (pz_cokI is_154 rfl) ?_
  refine w_loc rfl ?_
  refine w_loc rfl ?_
  refine w_call s_X11_thrown rfl (pz_cokI is_154 rfl) ?_
  refine w_loc rfl ?_
  refine w_ieq (fun _ => ?_) (fun q => absurd e3 q)
  refine pz_G_of pz_b344_764 ?_
  refine w_loc rfl ?_
  refine w_zne (fun _ => ?_) (fun hc => ?_)
  · skip
    refine pz_G_of pz_b344_788 ?_
    refine w_goto ?_
    exact K iv2 dv1 x _ _ _ hx hI
  · skip
    have hv : iv2 164 0 = b := by rw [e2]; exact hy (by omega)
    refine w_loc rfl ?_
    refine w_pure rfl ?_
    refine w_lald (v := iv2 164 0) is_164 ln_164 ⟨by decide, by decide⟩ rfl ?_
    refine w_loc rfl ?_
    rcases hb with hb0 | hb0
    · refine w_zeq (fun _ => ?_) (fun q => absurd hb0 q)
      refine pz_G_of pz_b344_781 ?_
      refine w_pure (st' := [.inr (.inr (.inl b)), .inr (.inr (.inl (iv2 164 0)))]) (by rw [hb0]; rfl) ?_
      refine w_nil ?_
      refine pz_G_of pz_b344_782 ?_
      refine w_lcmp hv ?_
      refine w_zeq (fun _ => ?_) (fun q => absurd rfl q)
      refine pz_G_of pz_b344_788 ?_
      refine w_goto ?_
      exact K iv2 dv1 x _ _ _ hx hI
    · refine w_zeq (fun q => absurd q (by omega)) (fun _ => ?_)
      refine w_pure (st' := [.inr (.inr (.inl b)), .inr (.inr (.inl (iv2 164 0)))]) (by rw [hb0]; rfl) ?_
      refine w_goto ?_
      refine pz_G_of pz_b344_782 ?_
      refine w_lcmp hv ?_
      refine w_zeq (fun _ => ?_) (fun q => absurd rfl q)
      refine pz_G_of pz_b344_788 ?_
      refine w_goto ?_
      exact K iv2 dv1 x _ _ _ hx hI
theorem t_L8 {L cc ss : Nat} {sc : Nat → Int} {iv : Nat → Nat → Int} {dv : Nat → Nat → UInt64} {i : Int} {u6 u7 u8 : Option pz_V} {Q : pz_Q} (hQ : t_Q t_Bz sc L 131 228 t_Vi t_Vi [] [] iv) (K : ∀ iv2 dv2 x (v6 v7 v8 : Option pz_V), x ≤ 1 → t_I sc iv2 → pz_G 344 2797 [some (.inr (.inl 1)), some (.inr (.inl 2)), some (.inr (.inl 154)), some (.inr (.inl 164)), some (.inr (.inl 165)), some (.inl i), v6, v7, v8] [] (pz_Sh L, iv2, dv2, cc + x, ss + 6 * x) Q) : pz_G 344 791 [some (.inr (.inl 1)), some (.inr (.inl 2)), some (.inr (.inl 154)), some (.inr (.inl 164)), some (.inr (.inl 165)), some (.inl i), u6, u7, u8] [] (pz_Sh L, iv, dv, cc, ss) Q := by
  obtain ⟨o, Φ, b, c, hb, hr, ho, hn⟩ := hQ
  rcases ho with ⟨ho, hc⟩ | ⟨E, ho, hl, hc⟩
  · subst ho
    refine pz_G_of pz_b344_791 ?_
    refine w_loc rfl ?_
    refine w_callE hr rfl (pz_cokI is_2 rfl) (fun iv1 hp => ?_)
    obtain ⟨e1, hx⟩ := hn iv1 hp
    obtain ⟨iv2, hr2, e2, e3, hI⟩ := hx (iv1 164)
    rw [pz_u1_self] at hr2
    refine w_loc rfl ?_
    refine w_call hr2 rfl (pz_cokI is_154 rfl) ?_
    refine w_ieq (fun _ => ?_) (fun q => absurd rfl q)
    exact K iv2 dv 0 u6 u7 u8 (by omega) hI
  · exact absurd hl (by simp [pz_lk])
theorem t_L9 {L cc ss : Nat} {sc : Nat → Int} {iv : Nat → Nat → Int} {dv : Nat → Nat → UInt64} {i : Int} {u6 u7 u8 : Option pz_V} {Q : pz_Q} (hi : 0 ≤ i ∧ i + 5 ≤ L ∧ L ≤ 2560) (h1 : iv 1 = sc) (hQ : t_Q t_Bi sc L 132 230 t_Vi t_Vi (pz_hc 311) [.inl (sc (i + 1).toNat), .inl (sc (i + 2).toNat)] iv) (K : ∀ iv2 dv2 x (v6 v7 v8 : Option pz_V), x ≤ 1 → t_I sc iv2 → pz_G 344 2797 [some (.inr (.inl 1)), some (.inr (.inl 2)), some (.inr (.inl 154)), some (.inr (.inl 164)), some (.inr (.inl 165)), some (.inl i), v6, v7, v8] [] (pz_Sh L, iv2, dv2, cc + x, ss + 6 * x) Q) : pz_G 344 804 [some (.inr (.inl 1)), some (.inr (.inl 2)), some (.inr (.inl 154)), some (.inr (.inl 164)), some (.inr (.inl 165)), some (.inl i), u6, u7, u8] [] (pz_Sh L, iv, dv, cc, ss) Q := by
  obtain ⟨o, Φ, b, c, hb, hr, ho, hn⟩ := hQ
  refine pz_G_of pz_b344_804 ?_
  refine w_loc rfl ?_
  refine w_loc rfl ?_
  refine w_loc rfl ?_
  refine w_pure rfl ?_
  refine w_iadd (by omega) ?_
  refine w_sald (len := L) (v := sc (i + 1).toNat) rfl ⟨by omega, by omega⟩ (by rw [h1]) ?_
  refine w_loc rfl ?_
  refine w_loc rfl ?_
  refine w_pure rfl ?_
  refine w_iadd (by omega) ?_
  refine w_sald (len := L) (v := sc (i + 2).toNat) rfl ⟨by omega, by omega⟩ (by rw [h1]) ?_
  refine w_loc rfl ?_
  refine w_callW (t_w311 hr ho) rfl rfl (fun iv1 dv1 x hx hp => ?_)
  obtain ⟨iv0, hp0, y, e0, hy⟩ := hp
  subst e0
  obtain ⟨e1, hx2⟩ := hn iv0 hp0
  obtain ⟨iv2, hr2, e2, e3, hI⟩ := hx2 y
  refine w_loc rfl ?_
  refine w_loc rfl ?_
  refine w_loc rfl ?_
  refine w_loc rfl ?_
  refine w_pure rfl ?_
  refine w_iadd (by omega) ?_
  refine w_sald (len := L) (v := sc (i + 1).toNat) rfl ⟨by omega, by omega⟩ (by show iv0 1 _ = _; rw [e1]) ?_
  refine w_loc rfl ?_
  refine w_loc rfl ?_
  refine w_pure rfl ?_
  refine w_iadd (by omega) ?_
  refine w_sald (len := L) (v := sc (i + 2).toNat) rfl ⟨by omega, by omega⟩ (by show iv0 1 _ = _; rw [e1]) ?_
  refine w_call hr2 rfl (pz_cokI is_154 rfl) ?_
  refine w_loc rfl ?_
  refine w_loc rfl ?_
  refine w_call s_X11_thrown rfl (pz_cokI is_154 rfl) ?_
  refine w_loc rfl ?_
  refine w_ieq (fun _ => ?_) (fun q => absurd e3 q)
  refine pz_G_of pz_b344_852 ?_
  refine w_loc rfl ?_
  refine w_zne (fun _ => ?_) (fun hc => ?_)
  · skip
    refine pz_G_of pz_b344_869 ?_
    refine w_goto ?_
    exact K iv2 dv1 x _ _ _ hx hI
  · skip
    have hv : iv2 164 0 = b := by rw [e2]; exact hy (by omega)
    refine w_loc rfl ?_
    refine w_pure rfl ?_
    refine w_lald (v := iv2 164 0) is_164 ln_164 ⟨by decide, by decide⟩ rfl ?_
    refine w_loc rfl ?_
    refine w_pure rfl ?_
    refine w_lcmp hv ?_
    refine w_zeq (fun _ => ?_) (fun q => absurd rfl q)
    refine pz_G_of pz_b344_869 ?_
    refine w_goto ?_
    exact K iv2 dv1 x _ _ _ hx hI
theorem t_L10 {L cc ss : Nat} {sc : Nat → Int} {iv : Nat → Nat → Int} {dv : Nat → Nat → UInt64} {i : Int} {u6 u7 u8 : Option pz_V} {Q : pz_Q} (hi : 0 ≤ i ∧ i + 5 ≤ L ∧ L ≤ 2560) (h1 : iv 1 = sc) (hQ : t_Q t_Bi sc L 133 231 t_Vi t_Vi (pz_hc 312) [.inl (sc (i + 1).toNat), .inl (sc (i + 2).toNat)] iv) (K : ∀ iv2 dv2 x (v6 v7 v8 : Option pz_V), x ≤ 1 → t_I sc iv2 → pz_G 344 2797 [some (.inr (.inl 1)), some (.inr (.inl 2)), some (.inr (.inl 154)), some (.inr (.inl 164)), some (.inr (.inl 165)), some (.inl i), v6, v7, v8] [] (pz_Sh L, iv2, dv2, cc + x, ss + 6 * x) Q) : pz_G 344 872 [some (.inr (.inl 1)), some (.inr (.inl 2)), some (.inr (.inl 154)), some (.inr (.inl 164)), some (.inr (.inl 165)), some (.inl i), u6, u7, u8] [] (pz_Sh L, iv, dv, cc, ss) Q := by
  obtain ⟨o, Φ, b, c, hb, hr, ho, hn⟩ := hQ
  refine pz_G_of pz_b344_872 ?_
  refine w_loc rfl ?_
  refine w_loc rfl ?_
  refine w_loc rfl ?_
  refine w_pure rfl ?_
  refine w_iadd (by omega) ?_
  refine w_sald (len := L) (v := sc (i + 1).toNat) rfl ⟨by omega, by omega⟩ (by rw [h1]) ?_
  refine w_loc rfl ?_
  refine w_loc rfl ?_
  refine w_pure rfl ?_
  refine w_iadd (by omega) ?_
  refine w_sald (len := L) (v := sc (i + 2).toNat) rfl ⟨by omega, by omega⟩ (by rw [h1]) ?_
  refine w_loc rfl ?_
  refine w_callW (t_w312 hr ho) rfl rfl (fun iv1 dv1 x hx hp => ?_)
  obtain ⟨iv0, hp0, y, e0, hy⟩ := hp
  subst e0
  obtain ⟨e1, hx2⟩ := hn iv0 hp0
  obtain ⟨iv2, hr2, e2, e3, hI⟩ := hx2 y
  refine w_loc rfl ?_
  refine w_loc rfl ?_
  refine w_loc rfl ?_
  refine w_loc rfl ?_
  refine w_pure rfl ?_
  refine w_iadd (by omega) ?_
  refine w_sald (len := L) (v := sc (i + 1).toNat) rfl ⟨by omega, by omega⟩ (by show iv0 1 _ = _; rw [e1]) ?_
  refine w_loc rfl ?_
  refine w_loc rfl ?_
  refine w_pure rfl ?_
  refine w_iadd (by omega) ?_
  refine w_sald (len := L) (v := sc (i + 2).toNat) rfl ⟨by omega, by omega⟩ (by show iv0 1 _ = _; rw [e1]) ?_
  refine w_call hr2 rfl (pz_cokI is_154 rfl) ?_
  refine w_loc rfl ?_
  refine w_loc rfl ?_
  refine w_call s_X11_thrown rfl (pz_cokI is_154 rfl) ?_
  refine w_loc rfl ?_
  refine w_ieq (fun _ => ?_) (fun q => absurd e3 q)
  refine pz_G_of pz_b344_920 ?_
  refine w_loc rfl ?_
  refine w_zne (fun _ => ?_) (fun hc => ?_)
  · skip
    refine pz_G_of pz_b344_937 ?_
    refine w_goto ?_
    exact K iv2 dv1 x _ _ _ hx hI
  · skip
    have hv : iv2 164 0 = b := by rw [e2]; exact hy (by omega)
    refine w_loc rfl ?_
    refine w_pure rfl ?_
    refine w_lald (v := iv2 164 0) is_164 ln_164 ⟨by decide, by decide⟩ rfl ?_
    refine w_loc rfl ?_
    refine w_pure rfl ?_
    refine w_lcmp hv ?_
    refine w_zeq (fun _ => ?_) (fun q => absurd rfl q)
    refine pz_G_of pz_b344_937 ?_
    refine w_goto ?_
    exact K iv2 dv1 x _ _ _ hx hI
theorem t_L11 {L cc ss : Nat} {sc : Nat → Int} {iv : Nat → Nat → Int} {dv : Nat → Nat → UInt64} {i : Int} {u6 u7 u8 : Option pz_V} {Q : pz_Q} (hi : 0 ≤ i ∧ i + 5 ≤ L ∧ L ≤ 2560) (h1 : iv 1 = sc) (hQ : t_Q t_Bz sc L 134 232 t_Vi t_Vi (pz_hc 313) [.inl (sc (i + 1).toNat), .inl (sc (i + 2).toNat)] iv) (K : ∀ iv2 dv2 x (v6 v7 v8 : Option pz_V), x ≤ 1 → t_I sc iv2 → pz_G 344 2797 [some (.inr (.inl 1)), some (.inr (.inl 2)), some (.inr (.inl 154)), some (.inr (.inl 164)), some (.inr (.inl 165)), some (.inl i), v6, v7, v8] [] (pz_Sh L, iv2, dv2, cc + x, ss + 6 * x) Q) : pz_G 344 940 [some (.inr (.inl 1)), some (.inr (.inl 2)), some (.inr (.inl 154)), some (.inr (.inl 164)), some (.inr (.inl 165)), some (.inl i), u6, u7, u8] [] (pz_Sh L, iv, dv, cc, ss) Q := by
  obtain ⟨o, Φ, b, c, hb, hr, ho, hn⟩ := hQ
  refine pz_G_of pz_b344_940 ?_
  refine w_loc rfl ?_
  refine w_loc rfl ?_
  refine w_loc rfl ?_
  refine w_pure rfl ?_
  refine w_iadd (by omega) ?_
  refine w_sald (len := L) (v := sc (i + 1).toNat) rfl ⟨by omega, by omega⟩ (by rw [h1]) ?_
  refine w_loc rfl ?_
  refine w_loc rfl ?_
  refine w_pure rfl ?_
  refine w_iadd (by omega) ?_
  refine w_sald (len := L) (v := sc (i + 2).toNat) rfl ⟨by omega, by omega⟩ (by rw [h1]) ?_
  refine w_loc rfl ?_
  refine w_callW (t_w313 hr ho hb) rfl rfl (fun iv1 dv1 x hx hp => ?_)
  obtain ⟨iv0, hp0, y, e0, hy⟩ := hp
  subst e0
  obtain ⟨e1, hx2⟩ := hn iv0 hp0
  obtain ⟨iv2, hr2, e2, e3, hI⟩ := hx2 y
  refine w_loc rfl ?_
  refine w_loc rfl ?_
  refine w_loc rfl ?_
  refine w_loc rfl ?_
  refine w_pure rfl ?_
  refine w_iadd (by omega) ?_
  refine w_sald (len := L) (v := sc (i + 1).toNat) rfl ⟨by omega, by omega⟩ (by show iv0 1 _ = _; rw [e1]) ?_
  refine w_loc rfl ?_
  refine w_loc rfl ?_
  refine w_pure rfl ?_
  refine w_iadd (by omega) ?_
  refine w_sald (len := L) (v := sc (i + 2).toNat) rfl ⟨by omega, by omega⟩ (by show iv0 1 _ = _; rw [e1]) ?_
  refine w_call hr2 rfl (pz_cokI is_154 rfl) ?_
  refine w_loc rfl ?_
  refine w_loc rfl ?_
  refine w_call s_X11_thrown rfl (pz_cokI is_154 rfl) ?_
  refine w_loc rfl ?_
  refine w_ieq (fun _ => ?_) (fun q => absurd e3 q)
  refine pz_G_of pz_b344_988 ?_
  refine w_loc rfl ?_
  refine w_zne (fun _ => ?_) (fun hc => ?_)
  · skip
    refine pz_G_of pz_b344_1012 ?_
    refine w_goto ?_
    exact K iv2 dv1 x _ _ _ hx hI
  · skip
    have hv : iv2 164 0 = b := by rw [e2]; exact hy (by omega)
    refine w_loc rfl ?_
    refine w_pure rfl ?_
    refine w_lald (v := iv2 164 0) is_164 ln_164 ⟨by decide, by decide⟩ rfl ?_
    refine w_loc rfl ?_
    rcases hb with hb0 | hb0
    · refine w_zeq (fun _ => ?_) (fun q => absurd hb0 q)
      refine pz_G_of pz_b344_1005 ?_
      refine w_pure (st' := [.inr (.inr (.inl b)), .inr (.inr (.inl (iv2 164 0)))]) (by rw [hb0]; rfl) ?_
      refine w_nil ?_
      refine pz_G_of pz_b344_1006 ?_
      refine w_lcmp hv ?_
      refine w_zeq (fun _ => ?_) (fun q => absurd rfl q)
      refine pz_G_of pz_b344_1012 ?_
      refine w_goto ?_
      exact K iv2 dv1 x _ _ _ hx hI
    · refine w_zeq (fun q => absurd q (by omega)) (fun _ => ?_)
      refine w_pure (st' := [.inr (.inr (.inl b)), .inr (.inr (.inl (iv2 164 0)))]) (by rw [hb0]; rfl) ?_
      refine w_goto ?_
      refine pz_G_of pz_b344_1006 ?_
      refine w_lcmp hv ?_
      refine w_zeq (fun _ => ?_) (fun q => absurd rfl q)
      refine pz_G_of pz_b344_1012 ?_
      refine w_goto ?_
      exact K iv2 dv1 x _ _ _ hx hI
theorem t_L12 {L cc ss : Nat} {sc : Nat → Int} {iv : Nat → Nat → Int} {dv : Nat → Nat → UInt64} {i : Int} {u6 u7 u8 : Option pz_V} {Q : pz_Q} (hi : 0 ≤ i ∧ i + 5 ≤ L ∧ L ≤ 2560) (h1 : iv 1 = sc) (hQ : t_Q t_Bi sc L 135 235 t_Vi t_Vi (pz_hc 314) [] iv) (K : ∀ iv2 dv2 x (v6 v7 v8 : Option pz_V), x ≤ 1 → t_I sc iv2 → pz_G 344 2797 [some (.inr (.inl 1)), some (.inr (.inl 2)), some (.inr (.inl 154)), some (.inr (.inl 164)), some (.inr (.inl 165)), some (.inl i), v6, v7, v8] [] (pz_Sh L, iv2, dv2, cc + x, ss + 6 * x) Q) : pz_G 344 1015 [some (.inr (.inl 1)), some (.inr (.inl 2)), some (.inr (.inl 154)), some (.inr (.inl 164)), some (.inr (.inl 165)), some (.inl i), u6, u7, u8] [] (pz_Sh L, iv, dv, cc, ss) Q := by
  obtain ⟨o, Φ, b, c, hb, hr, ho, hn⟩ := hQ
  refine pz_G_of pz_b344_1015 ?_
  refine w_loc rfl ?_
  refine w_loc rfl ?_
  refine w_callW (t_w314 hr ho) rfl rfl (fun iv1 dv1 x hx hp => ?_)
  obtain ⟨iv0, hp0, y, e0, hy⟩ := hp
  subst e0
  obtain ⟨e1, hx2⟩ := hn iv0 hp0
  obtain ⟨iv2, hr2, e2, e3, hI⟩ := hx2 y
  refine w_loc rfl ?_
  refine w_loc rfl ?_
  refine w_call hr2 rfl (pz_cokI is_154 rfl) ?_
  refine w_loc rfl ?_
  refine w_loc rfl ?_
  refine w_call s_X11_thrown rfl (pz_cokI is_154 rfl) ?_
  refine w_loc rfl ?_
  refine w_ieq (fun _ => ?_) (fun q => absurd e3 q)
  refine pz_G_of pz_b344_1039 ?_
  refine w_loc rfl ?_
  refine w_zne (fun _ => ?_) (fun hc => ?_)
  · skip
    refine pz_G_of pz_b344_1056 ?_
    refine w_goto ?_
    exact K iv2 dv1 x _ _ _ hx hI
  · skip
    have hv : iv2 164 0 = b := by rw [e2]; exact hy (by omega)
    refine w_loc rfl ?_
    refine w_pure rfl ?_
    refine w_lald (v := iv2 164 0) is_164 ln_164 ⟨by decide, by decide⟩ rfl ?_
    refine w_loc rfl ?_
    refine w_pure rfl ?_
    refine w_lcmp hv ?_
    refine w_zeq (fun _ => ?_) (fun q => absurd rfl q)
    refine pz_G_of pz_b344_1056 ?_
    refine w_goto ?_
    exact K iv2 dv1 x _ _ _ hx hI
theorem t_L13 {L cc ss : Nat} {sc : Nat → Int} {iv : Nat → Nat → Int} {dv : Nat → Nat → UInt64} {i : Int} {u6 u7 u8 : Option pz_V} {Q : pz_Q} (hi : 0 ≤ i ∧ i + 5 ≤ L ∧ L ≤ 2560) (h1 : iv 1 = sc) (hQ : t_Q t_Bi sc L 136 236 t_Vi t_Vi (pz_hc 315) [.inl (sc (i + 1).toNat)] iv) (K : ∀ iv2 dv2 x (v6 v7 v8 : Option pz_V), x ≤ 1 → t_I sc iv2 → pz_G 344 2797 [some (.inr (.inl 1)), some (.inr (.inl 2)), some (.inr (.inl 154)), some (.inr (.inl 164)), some (.inr (.inl 165)), some (.inl i), v6, v7, v8] [] (pz_Sh L, iv2, dv2, cc + x, ss + 6 * x) Q) : pz_G 344 1059 [some (.inr (.inl 1)), some (.inr (.inl 2)), some (.inr (.inl 154)), some (.inr (.inl 164)), some (.inr (.inl 165)), some (.inl i), u6, u7, u8] [] (pz_Sh L, iv, dv, cc, ss) Q := by
  obtain ⟨o, Φ, b, c, hb, hr, ho, hn⟩ := hQ
  refine pz_G_of pz_b344_1059 ?_
  refine w_loc rfl ?_
  refine w_loc rfl ?_
  refine w_loc rfl ?_
  refine w_pure rfl ?_
  refine w_iadd (by omega) ?_
  refine w_sald (len := L) (v := sc (i + 1).toNat) rfl ⟨by omega, by omega⟩ (by rw [h1]) ?_
  refine w_loc rfl ?_
  refine w_callW (t_w315 hr ho) rfl rfl (fun iv1 dv1 x hx hp => ?_)
  obtain ⟨iv0, hp0, y, e0, hy⟩ := hp
  subst e0
  obtain ⟨e1, hx2⟩ := hn iv0 hp0
  obtain ⟨iv2, hr2, e2, e3, hI⟩ := hx2 y
  refine w_loc rfl ?_
  refine w_loc rfl ?_
  refine w_loc rfl ?_
  refine w_loc rfl ?_
  refine w_pure rfl ?_
  refine w_iadd (by omega) ?_
  refine w_sald (len := L) (v := sc (i + 1).toNat) rfl ⟨by omega, by omega⟩ (by show iv0 1 _ = _; rw [e1]) ?_
  refine w_call hr2 rfl (pz_cokI is_154 rfl) ?_
  refine w_loc rfl ?_
  refine w_loc rfl ?_
  refine w_call s_X11_thrown rfl (pz_cokI is_154 rfl) ?_
  refine w_loc rfl ?_
  refine w_ieq (fun _ => ?_) (fun q => absurd e3 q)
  refine pz_G_of pz_b344_1095 ?_
  refine w_loc rfl ?_
  refine w_zne (fun _ => ?_) (fun hc => ?_)
  · skip
    refine pz_G_of pz_b344_1112 ?_
    refine w_goto ?_
    exact K iv2 dv1 x _ _ _ hx hI
  · skip
    have hv : iv2 164 0 = b := by rw [e2]; exact hy (by omega)
    refine w_loc rfl ?_
    refine w_pure rfl ?_
    refine w_lald (v := iv2 164 0) is_164 ln_164 ⟨by decide, by decide⟩ rfl ?_
    refine w_loc rfl ?_
    refine w_pure rfl ?_
    refine w_lcmp hv ?_
    refine w_zeq (fun _ => ?_) (fun q => absurd rfl q)
    refine pz_G_of pz_b344_1112 ?_
    refine w_goto ?_
    exact K iv2 dv1 x _ _ _ hx hI
theorem t_L14 {L cc ss : Nat} {sc : Nat → Int} {iv : Nat → Nat → Int} {dv : Nat → Nat → UInt64} {i : Int} {u6 u7 u8 : Option pz_V} {Q : pz_Q} (hQ : t_Q t_Bz sc L 137 238 t_Vi t_Vi [] [] iv) (K : ∀ iv2 dv2 x (v6 v7 v8 : Option pz_V), x ≤ 1 → t_I sc iv2 → pz_G 344 2797 [some (.inr (.inl 1)), some (.inr (.inl 2)), some (.inr (.inl 154)), some (.inr (.inl 164)), some (.inr (.inl 165)), some (.inl i), v6, v7, v8] [] (pz_Sh L, iv2, dv2, cc + x, ss + 6 * x) Q) : pz_G 344 1115 [some (.inr (.inl 1)), some (.inr (.inl 2)), some (.inr (.inl 154)), some (.inr (.inl 164)), some (.inr (.inl 165)), some (.inl i), u6, u7, u8] [] (pz_Sh L, iv, dv, cc, ss) Q := by
  obtain ⟨o, Φ, b, c, hb, hr, ho, hn⟩ := hQ
  rcases ho with ⟨ho, hc⟩ | ⟨E, ho, hl, hc⟩
  · subst ho
    refine pz_G_of pz_b344_1115 ?_
    refine w_loc rfl ?_
    refine w_callE hr rfl (pz_cokI is_2 rfl) (fun iv1 hp => ?_)
    obtain ⟨e1, hx⟩ := hn iv1 hp
    obtain ⟨iv2, hr2, e2, e3, hI⟩ := hx (iv1 164)
    rw [pz_u1_self] at hr2
    refine w_loc rfl ?_
    refine w_call hr2 rfl (pz_cokI is_154 rfl) ?_
    refine w_ieq (fun _ => ?_) (fun q => absurd rfl q)
    exact K iv2 dv 0 u6 u7 u8 (by omega) hI
  · exact absurd hl (by simp [pz_lk])
theorem t_L15 {L cc ss : Nat} {sc : Nat → Int} {iv : Nat → Nat → Int} {dv : Nat → Nat → UInt64} {i : Int} {u6 u7 u8 : Option pz_V} {Q : pz_Q} (hQ : t_Q t_Bz sc L 138 240 t_Vi t_Vi [] [] iv) (K : ∀ iv2 dv2 x (v6 v7 v8 : Option pz_V), x ≤ 1 → t_I sc iv2 → pz_G 344 2797 [some (.inr (.inl 1)), some (.inr (.inl 2)), some (.inr (.inl 154)), some (.inr (.inl 164)), some (.inr (.inl 165)), some (.inl i), v6, v7, v8] [] (pz_Sh L, iv2, dv2, cc + x, ss + 6 * x) Q) : pz_G 344 1128 [some (.inr (.inl 1)), some (.inr (.inl 2)), some (.inr (.inl 154)), some (.inr (.inl 164)), some (.inr (.inl 165)), some (.inl i), u6, u7, u8] [] (pz_Sh L, iv, dv, cc, ss) Q := by
  obtain ⟨o, Φ, b, c, hb, hr, ho, hn⟩ := hQ
  rcases ho with ⟨ho, hc⟩ | ⟨E, ho, hl, hc⟩
  · subst ho
    refine pz_G_of pz_b344_1128 ?_
    refine w_loc rfl ?_
    refine w_callE hr rfl (pz_cokI is_2 rfl) (fun iv1 hp => ?_)
    obtain ⟨e1, hx⟩ := hn iv1 hp
    obtain ⟨iv2, hr2, e2, e3, hI⟩ := hx (iv1 164)
    rw [pz_u1_self] at hr2
    refine w_loc rfl ?_
    refine w_call hr2 rfl (pz_cokI is_154 rfl) ?_
    refine w_ieq (fun _ => ?_) (fun q => absurd rfl q)
    exact K iv2 dv 0 u6 u7 u8 (by omega) hI
  · exact absurd hl (by simp [pz_lk])
theorem t_L16 {L cc ss : Nat} {sc : Nat → Int} {iv : Nat → Nat → Int} {dv : Nat → Nat → UInt64} {i : Int} {u6 u7 u8 : Option pz_V} {Q : pz_Q} (hQ : t_Q t_Bz sc L 139 248 t_Vi t_Vi [] [] iv) (K : ∀ iv2 dv2 x (v6 v7 v8 : Option pz_V), x ≤ 1 → t_I sc iv2 → pz_G 344 2797 [some (.inr (.inl 1)), some (.inr (.inl 2)), some (.inr (.inl 154)), some (.inr (.inl 164)), some (.inr (.inl 165)), some (.inl i), v6, v7, v8] [] (pz_Sh L, iv2, dv2, cc + x, ss + 6 * x) Q) : pz_G 344 1141 [some (.inr (.inl 1)), some (.inr (.inl 2)), some (.inr (.inl 154)), some (.inr (.inl 164)), some (.inr (.inl 165)), some (.inl i), u6, u7, u8] [] (pz_Sh L, iv, dv, cc, ss) Q := by
  obtain ⟨o, Φ, b, c, hb, hr, ho, hn⟩ := hQ
  rcases ho with ⟨ho, hc⟩ | ⟨E, ho, hl, hc⟩
  · subst ho
    refine pz_G_of pz_b344_1141 ?_
    refine w_loc rfl ?_
    refine w_callE hr rfl (pz_cokI is_2 rfl) (fun iv1 hp => ?_)
    obtain ⟨e1, hx⟩ := hn iv1 hp
    obtain ⟨iv2, hr2, e2, e3, hI⟩ := hx (iv1 164)
    rw [pz_u1_self] at hr2
    refine w_loc rfl ?_
    refine w_call hr2 rfl (pz_cokI is_154 rfl) ?_
    refine w_ieq (fun _ => ?_) (fun q => absurd rfl q)
    exact K iv2 dv 0 u6 u7 u8 (by omega) hI
  · exact absurd hl (by simp [pz_lk])
theorem t_L17 {L cc ss : Nat} {sc : Nat → Int} {iv : Nat → Nat → Int} {dv : Nat → Nat → UInt64} {i : Int} {u6 u7 u8 : Option pz_V} {Q : pz_Q} (hQ : t_Q t_Bi sc L 140 249 t_Vi t_Vi [] [] iv) (K : ∀ iv2 dv2 x (v6 v7 v8 : Option pz_V), x ≤ 1 → t_I sc iv2 → pz_G 344 2797 [some (.inr (.inl 1)), some (.inr (.inl 2)), some (.inr (.inl 154)), some (.inr (.inl 164)), some (.inr (.inl 165)), some (.inl i), v6, v7, v8] [] (pz_Sh L, iv2, dv2, cc + x, ss + 6 * x) Q) : pz_G 344 1154 [some (.inr (.inl 1)), some (.inr (.inl 2)), some (.inr (.inl 154)), some (.inr (.inl 164)), some (.inr (.inl 165)), some (.inl i), u6, u7, u8] [] (pz_Sh L, iv, dv, cc, ss) Q := by
  obtain ⟨o, Φ, b, c, hb, hr, ho, hn⟩ := hQ
  rcases ho with ⟨ho, hc⟩ | ⟨E, ho, hl, hc⟩
  · subst ho
    refine pz_G_of pz_b344_1154 ?_
    refine w_loc rfl ?_
    refine w_callE hr rfl (pz_cokI is_2 rfl) (fun iv1 hp => ?_)
    obtain ⟨e1, hx⟩ := hn iv1 hp
    obtain ⟨iv2, hr2, e2, e3, hI⟩ := hx (iv1 164)
    rw [pz_u1_self] at hr2
    refine w_loc rfl ?_
    refine w_call hr2 rfl (pz_cokI is_154 rfl) ?_
    refine w_ieq (fun _ => ?_) (fun q => absurd rfl q)
    exact K iv2 dv 0 u6 u7 u8 (by omega) hI
  · exact absurd hl (by simp [pz_lk])
theorem t_L18 {L cc ss : Nat} {sc : Nat → Int} {iv : Nat → Nat → Int} {dv : Nat → Nat → UInt64} {i : Int} {u6 u7 u8 : Option pz_V} {Q : pz_Q} (hi : 0 ≤ i ∧ i + 5 ≤ L ∧ L ≤ 2560) (h1 : iv 1 = sc) (hQ : t_Q t_Bi sc L 141 250 t_Vi t_Vi (pz_hc 316) [.inl (sc (i + 1).toNat), .inl (sc (i + 2).toNat)] iv) (K : ∀ iv2 dv2 x (v6 v7 v8 : Option pz_V), x ≤ 1 → t_I sc iv2 → pz_G 344 2797 [some (.inr (.inl 1)), some (.inr (.inl 2)), some (.inr (.inl 154)), some (.inr (.inl 164)), some (.inr (.inl 165)), some (.inl i), v6, v7, v8] [] (pz_Sh L, iv2, dv2, cc + x, ss + 6 * x) Q) : pz_G 344 1167 [some (.inr (.inl 1)), some (.inr (.inl 2)), some (.inr (.inl 154)), some (.inr (.inl 164)), some (.inr (.inl 165)), some (.inl i), u6, u7, u8] [] (pz_Sh L, iv, dv, cc, ss) Q := by
  obtain ⟨o, Φ, b, c, hb, hr, ho, hn⟩ := hQ
  refine pz_G_of pz_b344_1167 ?_
  refine w_loc rfl ?_
  refine w_loc rfl ?_
  refine w_loc rfl ?_
  refine w_pure rfl ?_
  refine w_iadd (by omega) ?_
  refine w_sald (len := L) (v := sc (i + 1).toNat) rfl ⟨by omega, by omega⟩ (by rw [h1]) ?_
  refine w_loc rfl ?_
  refine w_loc rfl ?_
  refine w_pure rfl ?_
  refine w_iadd (by omega) ?_
  refine w_sald (len := L) (v := sc (i + 2).toNat) rfl ⟨by omega, by omega⟩ (by rw [h1]) ?_
  refine w_loc rfl ?_
  refine w_callW (t_w316 hr ho) rfl rfl (fun iv1 dv1 x hx hp => ?_)
  obtain ⟨iv0, hp0, y, e0, hy⟩ := hp
  subst e0
  obtain ⟨e1, hx2⟩ := hn iv0 hp0
  obtain ⟨iv2, hr2, e2, e3, hI⟩ := hx2 y
  refine w_loc rfl ?_
  refine w_loc rfl ?_
  refine w_loc rfl ?_
  refine w_loc rfl ?_
  refine w_pure rfl ?_
  refine w_iadd (by omega) ?_
  refine w_sald (len := L) (v := sc (i + 1).toNat) rfl ⟨by omega, by omega⟩ (by show iv0 1 _ = _; rw [e1]) ?_
  refine w_loc rfl ?_
  refine w_loc rfl ?_
  refine w_pure rfl ?_
  refine w_iadd (by omega) ?_
  refine w_sald (len := L) (v := sc (i + 2).toNat) rfl ⟨by omega, by omega⟩ (by show iv0 1 _ = _; rw [e1]) ?_
  refine w_call hr2 rfl (pz_cokI is_154 rfl) ?_
  refine w_loc rfl ?_
  refine w_loc rfl ?_
  refine w_call s_X11_thrown rfl (pz_cokI is_154 rfl) ?_
  refine w_loc rfl ?_
  refine w_ieq (fun _ => ?_) (fun q => absurd e3 q)
  refine pz_G_of pz_b344_1215 ?_
  refine w_loc rfl ?_
  refine w_zne (fun _ => ?_) (fun hc => ?_)
  · skip
    refine pz_G_of pz_b344_1232 ?_
    refine w_goto ?_
    exact K iv2 dv1 x _ _ _ hx hI
  · skip
    have hv : iv2 164 0 = b := by rw [e2]; exact hy (by omega)
    refine w_loc rfl ?_
    refine w_pure rfl ?_
    refine w_lald (v := iv2 164 0) is_164 ln_164 ⟨by decide, by decide⟩ rfl ?_
    refine w_loc rfl ?_
    refine w_pure rfl ?_
    refine w_lcmp hv ?_
    refine w_zeq (fun _ => ?_) (fun q => absurd rfl q)
    refine pz_G_of pz_b344_1232 ?_
    refine w_goto ?_
    exact K iv2 dv1 x _ _ _ hx hI
theorem t_L19 {L cc ss : Nat} {sc : Nat → Int} {iv : Nat → Nat → Int} {dv : Nat → Nat → UInt64} {i : Int} {u6 u7 u8 : Option pz_V} {Q : pz_Q} (hi : 0 ≤ i ∧ i + 5 ≤ L ∧ L ≤ 2560) (h1 : iv 1 = sc) (hQ : t_Q t_Bi sc L 142 252 t_Vi t_Vi (pz_hc 317) [.inl (sc (i + 1).toNat), .inl (sc (i + 2).toNat)] iv) (K : ∀ iv2 dv2 x (v6 v7 v8 : Option pz_V), x ≤ 1 → t_I sc iv2 → pz_G 344 2797 [some (.inr (.inl 1)), some (.inr (.inl 2)), some (.inr (.inl 154)), some (.inr (.inl 164)), some (.inr (.inl 165)), some (.inl i), v6, v7, v8] [] (pz_Sh L, iv2, dv2, cc + x, ss + 6 * x) Q) : pz_G 344 1235 [some (.inr (.inl 1)), some (.inr (.inl 2)), some (.inr (.inl 154)), some (.inr (.inl 164)), some (.inr (.inl 165)), some (.inl i), u6, u7, u8] [] (pz_Sh L, iv, dv, cc, ss) Q := by
  obtain ⟨o, Φ, b, c, hb, hr, ho, hn⟩ := hQ
  refine pz_G_of pz_b344_1235 ?_
  refine w_loc rfl ?_
  refine w_loc rfl ?_
  refine w_loc rfl ?_
  refine w_pure rfl ?_
  refine w_iadd (by omega) ?_
  refine w_sald (len := L) (v := sc (i + 1).toNat) rfl ⟨by omega, by omega⟩ (by rw [h1]) ?_
  refine w_loc rfl ?_
  refine w_loc rfl ?_
  refine w_pure rfl ?_
  refine w_iadd (by omega) ?_
  refine w_sald (len := L) (v := sc (i + 2).toNat) rfl ⟨by omega, by omega⟩ (by rw [h1]) ?_
  refine w_loc rfl ?_
  refine w_callW (t_w317 hr ho) rfl rfl (fun iv1 dv1 x hx hp => ?_)
  obtain ⟨iv0, hp0, y, e0, hy⟩ := hp
  subst e0
  obtain ⟨e1, hx2⟩ := hn iv0 hp0
  obtain ⟨iv2, hr2, e2, e3, hI⟩ := hx2 y
  refine w_loc rfl ?_
  refine w_loc rfl ?_
  refine w_loc rfl ?_
  refine w_loc rfl ?_
  refine w_pure rfl ?_
  refine w_iadd (by omega) ?_
  refine w_sald (len := L) (v := sc (i + 1).toNat) rfl ⟨by omega, by omega⟩ (by show iv0 1 _ = _; rw [e1]) ?_
  refine w_loc rfl ?_
  refine w_loc rfl ?_
  refine w_pure rfl ?_
  refine w_iadd (by omega) ?_
  refine w_sald (len := L) (v := sc (i + 2).toNat) rfl ⟨by omega, by omega⟩ (by show iv0 1 _ = _; rw [e1]) ?_
  refine w_call hr2 rfl (pz_cokI is_154 rfl) ?_
  refine w_loc rfl ?_
  refine w_loc rfl ?_
  refine w_call s_X11_thrown rfl (pz_cokI is_154 rfl) ?_
  refine w_loc rfl ?_
  refine w_ieq (fun _ => ?_) (fun q => absurd e3 q)
  refine pz_G_of pz_b344_1283 ?_
  refine w_loc rfl ?_
  refine w_zne (fun _ => ?_) (fun hc => ?_)
  · skip
    refine pz_G_of pz_b344_1300 ?_
    refine w_goto ?_
    exact K iv2 dv1 x _ _ _ hx hI
  · skip
    have hv : iv2 164 0 = b := by rw [e2]; exact hy (by omega)
    refine w_loc rfl ?_
    refine w_pure rfl ?_
    refine w_lald (v := iv2 164 0) is_164 ln_164 ⟨by decide, by decide⟩ rfl ?_
    refine w_loc rfl ?_
    refine w_pure rfl ?_
    refine w_lcmp hv ?_
    refine w_zeq (fun _ => ?_) (fun q => absurd rfl q)
    refine pz_G_of pz_b344_1300 ?_
    refine w_goto ?_
    exact K iv2 dv1 x _ _ _ hx hI
theorem t_L20 {L cc ss : Nat} {sc : Nat → Int} {iv : Nat → Nat → Int} {dv : Nat → Nat → UInt64} {i : Int} {u6 u7 u8 : Option pz_V} {Q : pz_Q} (hi : 0 ≤ i ∧ i + 5 ≤ L ∧ L ≤ 2560) (h1 : iv 1 = sc) (hQ : t_Q t_Bi sc L 143 263 t_Vi t_Vi (pz_hc 318) [.inl (sc (i + 1).toNat)] iv) (K : ∀ iv2 dv2 x (v6 v7 v8 : Option pz_V), x ≤ 1 → t_I sc iv2 → pz_G 344 2797 [some (.inr (.inl 1)), some (.inr (.inl 2)), some (.inr (.inl 154)), some (.inr (.inl 164)), some (.inr (.inl 165)), some (.inl i), v6, v7, v8] [] (pz_Sh L, iv2, dv2, cc + x, ss + 6 * x) Q) : pz_G 344 1303 [some (.inr (.inl 1)), some (.inr (.inl 2)), some (.inr (.inl 154)), some (.inr (.inl 164)), some (.inr (.inl 165)), some (.inl i), u6, u7, u8] [] (pz_Sh L, iv, dv, cc, ss) Q := by
  obtain ⟨o, Φ, b, c, hb, hr, ho, hn⟩ := hQ
  refine pz_G_of pz_b344_1303 ?_
  refine w_loc rfl ?_
  refine w_loc rfl ?_
  refine w_loc rfl ?_
  refine w_pure rfl ?_
  refine w_iadd (by omega) ?_
  refine w_sald (len := L) (v := sc (i + 1).toNat) rfl ⟨by omega, by omega⟩ (by rw [h1]) ?_
  refine w_loc rfl ?_
  refine w_callW (t_w318 hr ho) rfl rfl (fun iv1 dv1 x hx hp => ?_)
  obtain ⟨iv0, hp0, y, e0, hy⟩ := hp
  subst e0
  obtain ⟨e1, hx2⟩ := hn iv0 hp0
  obtain ⟨iv2, hr2, e2, e3, hI⟩ := hx2 y
  refine w_loc rfl ?_
  refine w_loc rfl ?_
  refine w_loc rfl ?_
  refine w_loc rfl ?_
  refine w_pure rfl ?_
  refine w_iadd (by omega) ?_
  refine w_sald (len := L) (v := sc (i + 1).toNat) rfl ⟨by omega, by omega⟩ (by show iv0 1 _ = _; rw [e1]) ?_
  refine w_call hr2 rfl (pz_cokI is_154 rfl) ?_
  refine w_loc rfl ?_
  refine w_loc rfl ?_
  refine w_call s_X11_thrown rfl (pz_cokI is_154 rfl) ?_
  refine w_loc rfl ?_
  refine w_ieq (fun _ => ?_) (fun q => absurd e3 q)
  refine pz_G_of pz_b344_1339 ?_
  refine w_loc rfl ?_
  refine w_zne (fun _ => ?_) (fun hc => ?_)
  · skip
    refine pz_G_of pz_b344_1356 ?_
    refine w_goto ?_
    exact K iv2 dv1 x _ _ _ hx hI
  · skip
    have hv : iv2 164 0 = b := by rw [e2]; exact hy (by omega)
    refine w_loc rfl ?_
    refine w_pure rfl ?_
    refine w_lald (v := iv2 164 0) is_164 ln_164 ⟨by decide, by decide⟩ rfl ?_
    refine w_loc rfl ?_
    refine w_pure rfl ?_
    refine w_lcmp hv ?_
    refine w_zeq (fun _ => ?_) (fun q => absurd rfl q)
    refine pz_G_of pz_b344_1356 ?_
    refine w_goto ?_
    exact K iv2 dv1 x _ _ _ hx hI
theorem t_L21 {L cc ss : Nat} {sc : Nat → Int} {iv : Nat → Nat → Int} {dv : Nat → Nat → UInt64} {i : Int} {u6 u7 u8 : Option pz_V} {Q : pz_Q} (hi : 0 ≤ i ∧ i + 5 ≤ L ∧ L ≤ 2560) (h1 : iv 1 = sc) (hQ : t_Q t_Bi sc L 144 264 t_Vi t_Vi (pz_hc 319) [.inl (sc (i + 1).toNat)] iv) (K : ∀ iv2 dv2 x (v6 v7 v8 : Option pz_V), x ≤ 1 → t_I sc iv2 → pz_G 344 2797 [some (.inr (.inl 1)), some (.inr (.inl 2)), some (.inr (.inl 154)), some (.inr (.inl 164)), some (.inr (.inl 165)), some (.inl i), v6, v7, v8] [] (pz_Sh L, iv2, dv2, cc + x, ss + 6 * x) Q) : pz_G 344 1359 [some (.inr (.inl 1)), some (.inr (.inl 2)), some (.inr (.inl 154)), some (.inr (.inl 164)), some (.inr (.inl 165)), some (.inl i), u6, u7, u8] [] (pz_Sh L, iv, dv, cc, ss) Q := by
  obtain ⟨o, Φ, b, c, hb, hr, ho, hn⟩ := hQ
  refine pz_G_of pz_b344_1359 ?_
  refine w_loc rfl ?_
  refine w_loc rfl ?_
  refine w_loc rfl ?_
  refine w_pure rfl ?_
  refine w_iadd (by omega) ?_
  refine w_sald (len := L) (v := sc (i + 1).toNat) rfl ⟨by omega, by omega⟩ (by rw [h1]) ?_
  refine w_loc rfl ?_
  refine w_callW (t_w319 hr ho) rfl rfl (fun iv1 dv1 x hx hp => ?_)
  obtain ⟨iv0, hp0, y, e0, hy⟩ := hp
  subst e0
  obtain ⟨e1, hx2⟩ := hn iv0 hp0
  obtain ⟨iv2, hr2, e2, e3, hI⟩ := hx2 y
  refine w_loc rfl ?_
  refine w_loc rfl ?_
  refine w_loc rfl ?_
  refine w_loc rfl ?_
  refine w_pure rfl ?_
  refine w_iadd (by omega) ?_
  refine w_sald (len := L) (v := sc (i + 1).toNat) rfl ⟨by omega, by omega⟩ (by show iv0 1 _ = _; rw [e1]) ?_
  refine w_call hr2 rfl (pz_cokI is_154 rfl) ?_
  refine w_loc rfl ?_
  refine w_loc rfl ?_
  refine w_call s_X11_thrown rfl (pz_cokI is_154 rfl) ?_
  refine w_loc rfl ?_
  refine w_ieq (fun _ => ?_) (fun q => absurd e3 q)
  refine pz_G_of pz_b344_1395 ?_
  refine w_loc rfl ?_
  refine w_zne (fun _ => ?_) (fun hc => ?_)
  · skip
    refine pz_G_of pz_b344_1412 ?_
    refine w_goto ?_
    exact K iv2 dv1 x _ _ _ hx hI
  · skip
    have hv : iv2 164 0 = b := by rw [e2]; exact hy (by omega)
    refine w_loc rfl ?_
    refine w_pure rfl ?_
    refine w_lald (v := iv2 164 0) is_164 ln_164 ⟨by decide, by decide⟩ rfl ?_
    refine w_loc rfl ?_
    refine w_pure rfl ?_
    refine w_lcmp hv ?_
    refine w_zeq (fun _ => ?_) (fun q => absurd rfl q)
    refine pz_G_of pz_b344_1412 ?_
    refine w_goto ?_
    exact K iv2 dv1 x _ _ _ hx hI
theorem t_L22 {L cc ss : Nat} {sc : Nat → Int} {iv : Nat → Nat → Int} {dv : Nat → Nat → UInt64} {i : Int} {u6 u7 u8 : Option pz_V} {Q : pz_Q} (hi : 0 ≤ i ∧ i + 5 ≤ L ∧ L ≤ 2560) (h1 : iv 1 = sc) (hQ : t_Q t_Bi sc L 145 265 t_Vi t_Vi (pz_hc 320) [.inl (sc (i + 1).toNat)] iv) (K : ∀ iv2 dv2 x (v6 v7 v8 : Option pz_V), x ≤ 1 → t_I sc iv2 → pz_G 344 2797 [some (.inr (.inl 1)), some (.inr (.inl 2)), some (.inr (.inl 154)), some (.inr (.inl 164)), some (.inr (.inl 165)), some (.inl i), v6, v7, v8] [] (pz_Sh L, iv2, dv2, cc + x, ss + 6 * x) Q) : pz_G 344 1415 [some (.inr (.inl 1)), some (.inr (.inl 2)), some (.inr (.inl 154)), some (.inr (.inl 164)), some (.inr (.inl 165)), some (.inl i), u6, u7, u8] [] (pz_Sh L, iv, dv, cc, ss) Q := by
  obtain ⟨o, Φ, b, c, hb, hr, ho, hn⟩ := hQ
  refine pz_G_of pz_b344_1415 ?_
  refine w_loc rfl ?_
  refine w_loc rfl ?_
  refine w_loc rfl ?_
  refine w_pure rfl ?_
  refine w_iadd (by omega) ?_
  refine w_sald (len := L) (v := sc (i + 1).toNat) rfl ⟨by omega, by omega⟩ (by rw [h1]) ?_
  refine w_loc rfl ?_
  refine w_callW (t_w320 hr ho) rfl rfl (fun iv1 dv1 x hx hp => ?_)
  obtain ⟨iv0, hp0, y, e0, hy⟩ := hp
  subst e0
  obtain ⟨e1, hx2⟩ := hn iv0 hp0
  obtain ⟨iv2, hr2, e2, e3, hI⟩ := hx2 y
  refine w_loc rfl ?_
  refine w_loc rfl ?_
  refine w_loc rfl ?_
  refine w_loc rfl ?_
  refine w_pure rfl ?_
  refine w_iadd (by omega) ?_
  refine w_sald (len := L) (v := sc (i + 1).toNat) rfl ⟨by omega, by omega⟩ (by show iv0 1 _ = _; rw [e1]) ?_
  refine w_call hr2 rfl (pz_cokI is_154 rfl) ?_
  refine w_loc rfl ?_
  refine w_loc rfl ?_
  refine w_call s_X11_thrown rfl (pz_cokI is_154 rfl) ?_
  refine w_loc rfl ?_
  refine w_ieq (fun _ => ?_) (fun q => absurd e3 q)
  refine pz_G_of pz_b344_1451 ?_
  refine w_loc rfl ?_
  refine w_zne (fun _ => ?_) (fun hc => ?_)
  · skip
    refine pz_G_of pz_b344_1468 ?_
    refine w_goto ?_
    exact K iv2 dv1 x _ _ _ hx hI
  · skip
    have hv : iv2 164 0 = b := by rw [e2]; exact hy (by omega)
    refine w_loc rfl ?_
    refine w_pure rfl ?_
    refine w_lald (v := iv2 164 0) is_164 ln_164 ⟨by decide, by decide⟩ rfl ?_
    refine w_loc rfl ?_
    refine w_pure rfl ?_
    refine w_lcmp hv ?_
    refine w_zeq (fun _ => ?_) (fun q => absurd rfl q)
    refine pz_G_of pz_b344_1468 ?_
    refine w_goto ?_
    exact K iv2 dv1 x _ _ _ hx hI
theorem t_L23 {L cc ss : Nat} {sc : Nat → Int} {iv : Nat → Nat → Int} {dv : Nat → Nat → UInt64} {i : Int} {u6 u7 u8 : Option pz_V} {Q : pz_Q} (hi : 0 ≤ i ∧ i + 5 ≤ L ∧ L ≤ 2560) (h1 : iv 1 = sc) (hQ : t_Q t_Bz sc L 146 266 t_Vi t_Vi (pz_hc 321) [] iv) (K : ∀ iv2 dv2 x (v6 v7 v8 : Option pz_V), x ≤ 1 → t_I sc iv2 → pz_G 344 2797 [some (.inr (.inl 1)), some (.inr (.inl 2)), some (.inr (.inl 154)), some (.inr (.inl 164)), some (.inr (.inl 165)), some (.inl i), v6, v7, v8] [] (pz_Sh L, iv2, dv2, cc + x, ss + 6 * x) Q) : pz_G 344 1471 [some (.inr (.inl 1)), some (.inr (.inl 2)), some (.inr (.inl 154)), some (.inr (.inl 164)), some (.inr (.inl 165)), some (.inl i), u6, u7, u8] [] (pz_Sh L, iv, dv, cc, ss) Q := by
  obtain ⟨o, Φ, b, c, hb, hr, ho, hn⟩ := hQ
  refine pz_G_of pz_b344_1471 ?_
  refine w_loc rfl ?_
  refine w_loc rfl ?_
  refine w_callW (t_w321 hr ho hb) rfl rfl (fun iv1 dv1 x hx hp => ?_)
  obtain ⟨iv0, hp0, y, e0, hy⟩ := hp
  subst e0
  obtain ⟨e1, hx2⟩ := hn iv0 hp0
  obtain ⟨iv2, hr2, e2, e3, hI⟩ := hx2 y
  refine w_loc rfl ?_
  refine w_loc rfl ?_
  refine w_call hr2 rfl (pz_cokI is_154 rfl) ?_
  refine w_loc rfl ?_
  refine w_loc rfl ?_
  refine w_call s_X11_thrown rfl (pz_cokI is_154 rfl) ?_
  refine w_loc rfl ?_
  refine w_ieq (fun _ => ?_) (fun q => absurd e3 q)
  refine pz_G_of pz_b344_1495 ?_
  refine w_loc rfl ?_
  refine w_zne (fun _ => ?_) (fun hc => ?_)
  · skip
    refine pz_G_of pz_b344_1519 ?_
    refine w_goto ?_
    exact K iv2 dv1 x _ _ _ hx hI
  · skip
    have hv : iv2 164 0 = b := by rw [e2]; exact hy (by omega)
    refine w_loc rfl ?_
    refine w_pure rfl ?_
    refine w_lald (v := iv2 164 0) is_164 ln_164 ⟨by decide, by decide⟩ rfl ?_
    refine w_loc rfl ?_
    rcases hb with hb0 | hb0
    · refine w_zeq (fun _ => ?_) (fun q => absurd hb0 q)
      refine pz_G_of pz_b344_1512 ?_
      refine w_pure (st' := [.inr (.inr (.inl b)), .inr (.inr (.inl (iv2 164 0)))]) (by rw [hb0]; rfl) ?_
      refine w_nil ?_
      refine pz_G_of pz_b344_1513 ?_
      refine w_lcmp hv ?_
      refine w_zeq (fun _ => ?_) (fun q => absurd rfl q)
      refine pz_G_of pz_b344_1519 ?_
      refine w_goto ?_
      exact K iv2 dv1 x _ _ _ hx hI
    · refine w_zeq (fun q => absurd q (by omega)) (fun _ => ?_)
      refine w_pure (st' := [.inr (.inr (.inl b)), .inr (.inr (.inl (iv2 164 0)))]) (by rw [hb0]; rfl) ?_
      refine w_goto ?_
      refine pz_G_of pz_b344_1513 ?_
      refine w_lcmp hv ?_
      refine w_zeq (fun _ => ?_) (fun q => absurd rfl q)
      refine pz_G_of pz_b344_1519 ?_
      refine w_goto ?_
      exact K iv2 dv1 x _ _ _ hx hI
theorem t_L24 {L cc ss : Nat} {sc : Nat → Int} {iv : Nat → Nat → Int} {dv : Nat → Nat → UInt64} {i : Int} {u6 u7 u8 : Option pz_V} {Q : pz_Q} (hi : 0 ≤ i ∧ i + 5 ≤ L ∧ L ≤ 2560) (h1 : iv 1 = sc) (hQ : t_Q t_Bi sc L 147 269 t_Vi t_Vi (pz_hc 322) [.inl (sc (i + 1).toNat)] iv) (K : ∀ iv2 dv2 x (v6 v7 v8 : Option pz_V), x ≤ 1 → t_I sc iv2 → pz_G 344 2797 [some (.inr (.inl 1)), some (.inr (.inl 2)), some (.inr (.inl 154)), some (.inr (.inl 164)), some (.inr (.inl 165)), some (.inl i), v6, v7, v8] [] (pz_Sh L, iv2, dv2, cc + x, ss + 6 * x) Q) : pz_G 344 1522 [some (.inr (.inl 1)), some (.inr (.inl 2)), some (.inr (.inl 154)), some (.inr (.inl 164)), some (.inr (.inl 165)), some (.inl i), u6, u7, u8] [] (pz_Sh L, iv, dv, cc, ss) Q := by
  obtain ⟨o, Φ, b, c, hb, hr, ho, hn⟩ := hQ
  refine pz_G_of pz_b344_1522 ?_
  refine w_loc rfl ?_
  refine w_loc rfl ?_
  refine w_loc rfl ?_
  refine w_pure rfl ?_
  refine w_iadd (by omega) ?_
  refine w_sald (len := L) (v := sc (i + 1).toNat) rfl ⟨by omega, by omega⟩ (by rw [h1]) ?_
  refine w_loc rfl ?_
  refine w_callW (t_w322 hr ho) rfl rfl (fun iv1 dv1 x hx hp => ?_)
  obtain ⟨iv0, hp0, y, e0, hy⟩ := hp
  subst e0
  obtain ⟨e1, hx2⟩ := hn iv0 hp0
  obtain ⟨iv2, hr2, e2, e3, hI⟩ := hx2 y
  refine w_loc rfl ?_
  refine w_loc rfl ?_
  refine w_loc rfl ?_
  refine w_loc rfl ?_
  refine w_pure rfl ?_
  refine w_iadd (by omega) ?_
  refine w_sald (len := L) (v := sc (i + 1).toNat) rfl ⟨by omega, by omega⟩ (by show iv0 1 _ = _; rw [e1]) ?_
  refine w_call hr2 rfl (pz_cokI is_154 rfl) ?_
  refine w_loc rfl ?_
  refine w_loc rfl ?_
  refine w_call s_X11_thrown rfl (pz_cokI is_154 rfl) ?_
  refine w_loc rfl ?_
  refine w_ieq (fun _ => ?_) (fun q => absurd e3 q)
  refine pz_G_of pz_b344_1558 ?_
  refine w_loc rfl ?_
  refine w_zne (fun _ => ?_) (fun hc => ?_)
  · skip
    refine pz_G_of pz_b344_1575 ?_
    refine w_goto ?_
    exact K iv2 dv1 x _ _ _ hx hI
  · skip
    have hv : iv2 164 0 = b := by rw [e2]; exact hy (by omega)
    refine w_loc rfl ?_
    refine w_pure rfl ?_
    refine w_lald (v := iv2 164 0) is_164 ln_164 ⟨by decide, by decide⟩ rfl ?_
    refine w_loc rfl ?_
    refine w_pure rfl ?_
    refine w_lcmp hv ?_
    refine w_zeq (fun _ => ?_) (fun q => absurd rfl q)
    refine pz_G_of pz_b344_1575 ?_
    refine w_goto ?_
    exact K iv2 dv1 x _ _ _ hx hI
theorem t_L25 {L cc ss : Nat} {sc : Nat → Int} {iv : Nat → Nat → Int} {dv : Nat → Nat → UInt64} {i : Int} {u6 u7 u8 : Option pz_V} {Q : pz_Q} (hi : 0 ≤ i ∧ i + 5 ≤ L ∧ L ≤ 2560) (h1 : iv 1 = sc) (hQ : t_Q t_Bi sc L 148 271 t_Vi t_Vi (pz_hc 323) [.inl (sc (i + 1).toNat)] iv) (K : ∀ iv2 dv2 x (v6 v7 v8 : Option pz_V), x ≤ 1 → t_I sc iv2 → pz_G 344 2797 [some (.inr (.inl 1)), some (.inr (.inl 2)), some (.inr (.inl 154)), some (.inr (.inl 164)), some (.inr (.inl 165)), some (.inl i), v6, v7, v8] [] (pz_Sh L, iv2, dv2, cc + x, ss + 6 * x) Q) : pz_G 344 1578 [some (.inr (.inl 1)), some (.inr (.inl 2)), some (.inr (.inl 154)), some (.inr (.inl 164)), some (.inr (.inl 165)), some (.inl i), u6, u7, u8] [] (pz_Sh L, iv, dv, cc, ss) Q := by
  obtain ⟨o, Φ, b, c, hb, hr, ho, hn⟩ := hQ
  refine pz_G_of pz_b344_1578 ?_
  refine w_loc rfl ?_
  refine w_loc rfl ?_
  refine w_loc rfl ?_
  refine w_pure rfl ?_
  refine w_iadd (by omega) ?_
  refine w_sald (len := L) (v := sc (i + 1).toNat) rfl ⟨by omega, by omega⟩ (by rw [h1]) ?_
  refine w_loc rfl ?_
  refine w_callW (t_w323 hr ho) rfl rfl (fun iv1 dv1 x hx hp => ?_)
  obtain ⟨iv0, hp0, y, e0, hy⟩ := hp
  subst e0
  obtain ⟨e1, hx2⟩ := hn iv0 hp0
  obtain ⟨iv2, hr2, e2, e3, hI⟩ := hx2 y
  refine w_loc rfl ?_
  refine w_loc rfl ?_
  refine w_loc rfl ?_
  refine w_loc rfl ?_
  refine w_pure rfl ?_
  refine w_iadd (by omega) ?_
  refine w_sald (len := L) (v := sc (i + 1).toNat) rfl ⟨by omega, by omega⟩ (by show iv0 1 _ = _; rw [e1]) ?_
  refine w_call hr2 rfl (pz_cokI is_154 rfl) ?_
  refine w_loc rfl ?_
  refine w_loc rfl ?_
  refine w_call s_X11_thrown rfl (pz_cokI is_154 rfl) ?_
  refine w_loc rfl ?_
  refine w_ieq (fun _ => ?_) (fun q => absurd e3 q)
  refine pz_G_of pz_b344_1614 ?_
  refine w_loc rfl ?_
  refine w_zne (fun _ => ?_) (fun hc => ?_)
  · skip
    refine pz_G_of pz_b344_1631 ?_
    refine w_goto ?_
    exact K iv2 dv1 x _ _ _ hx hI
  · skip
    have hv : iv2 164 0 = b := by rw [e2]; exact hy (by omega)
    refine w_loc rfl ?_
    refine w_pure rfl ?_
    refine w_lald (v := iv2 164 0) is_164 ln_164 ⟨by decide, by decide⟩ rfl ?_
    refine w_loc rfl ?_
    refine w_pure rfl ?_
    refine w_lcmp hv ?_
    refine w_zeq (fun _ => ?_) (fun q => absurd rfl q)
    refine pz_G_of pz_b344_1631 ?_
    refine w_goto ?_
    exact K iv2 dv1 x _ _ _ hx hI
theorem t_L26 {L cc ss : Nat} {sc : Nat → Int} {iv : Nat → Nat → Int} {dv : Nat → Nat → UInt64} {i : Int} {u6 u7 u8 : Option pz_V} {Q : pz_Q} (hi : 0 ≤ i ∧ i + 5 ≤ L ∧ L ≤ 2560) (h1 : iv 1 = sc) (hQ : t_Q t_Bi sc L 149 272 t_Vi t_Vi (pz_hc 324) [.inl (sc (i + 1).toNat)] iv) (K : ∀ iv2 dv2 x (v6 v7 v8 : Option pz_V), x ≤ 1 → t_I sc iv2 → pz_G 344 2797 [some (.inr (.inl 1)), some (.inr (.inl 2)), some (.inr (.inl 154)), some (.inr (.inl 164)), some (.inr (.inl 165)), some (.inl i), v6, v7, v8] [] (pz_Sh L, iv2, dv2, cc + x, ss + 6 * x) Q) : pz_G 344 1634 [some (.inr (.inl 1)), some (.inr (.inl 2)), some (.inr (.inl 154)), some (.inr (.inl 164)), some (.inr (.inl 165)), some (.inl i), u6, u7, u8] [] (pz_Sh L, iv, dv, cc, ss) Q := by
  obtain ⟨o, Φ, b, c, hb, hr, ho, hn⟩ := hQ
  refine pz_G_of pz_b344_1634 ?_
  refine w_loc rfl ?_
  refine w_loc rfl ?_
  refine w_loc rfl ?_
  refine w_pure rfl ?_
  refine w_iadd (by omega) ?_
  refine w_sald (len := L) (v := sc (i + 1).toNat) rfl ⟨by omega, by omega⟩ (by rw [h1]) ?_
  refine w_loc rfl ?_
  refine w_callW (t_w324 hr ho) rfl rfl (fun iv1 dv1 x hx hp => ?_)
  obtain ⟨iv0, hp0, y, e0, hy⟩ := hp
  subst e0
  obtain ⟨e1, hx2⟩ := hn iv0 hp0
  obtain ⟨iv2, hr2, e2, e3, hI⟩ := hx2 y
  refine w_loc rfl ?_
  refine w_loc rfl ?_
  refine w_loc rfl ?_
  refine w_loc rfl ?_
  refine w_pure rfl ?_
  refine w_iadd (by omega) ?_
  refine w_sald (len := L) (v := sc (i + 1).toNat) rfl ⟨by omega, by omega⟩ (by show iv0 1 _ = _; rw [e1]) ?_
  refine w_call hr2 rfl (pz_cokI is_154 rfl) ?_
  refine w_loc rfl ?_
  refine w_loc rfl ?_
  refine w_call s_X11_thrown rfl (pz_cokI is_154 rfl) ?_
  refine w_loc rfl ?_
  refine w_ieq (fun _ => ?_) (fun q => absurd e3 q)
  refine pz_G_of pz_b344_1670 ?_
  refine w_loc rfl ?_
  refine w_zne (fun _ => ?_) (fun hc => ?_)
  · skip
    refine pz_G_of pz_b344_1687 ?_
    refine w_goto ?_
    exact K iv2 dv1 x _ _ _ hx hI
  · skip
    have hv : iv2 164 0 = b := by rw [e2]; exact hy (by omega)
    refine w_loc rfl ?_
    refine w_pure rfl ?_
    refine w_lald (v := iv2 164 0) is_164 ln_164 ⟨by decide, by decide⟩ rfl ?_
    refine w_loc rfl ?_
    refine w_pure rfl ?_
    refine w_lcmp hv ?_
    refine w_zeq (fun _ => ?_) (fun q => absurd rfl q)
    refine pz_G_of pz_b344_1687 ?_
    refine w_goto ?_
    exact K iv2 dv1 x _ _ _ hx hI
theorem t_L27 {L cc ss : Nat} {sc : Nat → Int} {iv : Nat → Nat → Int} {dv : Nat → Nat → UInt64} {i : Int} {u6 u7 u8 : Option pz_V} {Q : pz_Q} (hi : 0 ≤ i ∧ i + 5 ≤ L ∧ L ≤ 2560) (h1 : iv 1 = sc) (hQ : t_Q t_Bi sc L 150 273 t_Vi t_Vi (pz_hc 325) [.inl (sc (i + 1).toNat)] iv) (K : ∀ iv2 dv2 x (v6 v7 v8 : Option pz_V), x ≤ 1 → t_I sc iv2 → pz_G 344 2797 [some (.inr (.inl 1)), some (.inr (.inl 2)), some (.inr (.inl 154)), some (.inr (.inl 164)), some (.inr (.inl 165)), some (.inl i), v6, v7, v8] [] (pz_Sh L, iv2, dv2, cc + x, ss + 6 * x) Q) : pz_G 344 1690 [some (.inr (.inl 1)), some (.inr (.inl 2)), some (.inr (.inl 154)), some (.inr (.inl 164)), some (.inr (.inl 165)), some (.inl i), u6, u7, u8] [] (pz_Sh L, iv, dv, cc, ss) Q := by
  obtain ⟨o, Φ, b, c, hb, hr, ho, hn⟩ := hQ
  refine pz_G_of pz_b344_1690 ?_
  refine w_loc rfl ?_
  refine w_loc rfl ?_
  refine w_loc rfl ?_
  refine w_pure rfl ?_
  refine w_iadd (by omega) ?_
  refine w_sald (len := L) (v := sc (i + 1).toNat) rfl ⟨by omega, by omega⟩ (by rw [h1]) ?_
  refine w_loc rfl ?_
  refine w_callW (t_w325 hr ho) rfl rfl (fun iv1 dv1 x hx hp => ?_)
  obtain ⟨iv0, hp0, y, e0, hy⟩ := hp
  subst e0
  obtain ⟨e1, hx2⟩ := hn iv0 hp0
  obtain ⟨iv2, hr2, e2, e3, hI⟩ := hx2 y
  refine w_loc rfl ?_
  refine w_loc rfl ?_
  refine w_loc rfl ?_
  refine w_loc rfl ?_
  refine w_pure rfl ?_
  refine w_iadd (by omega) ?_
  refine w_sald (len := L) (v := sc (i + 1).toNat) rfl ⟨by omega, by omega⟩ (by show iv0 1 _ = _; rw [e1]) ?_
  refine w_call hr2 rfl (pz_cokI is_154 rfl) ?_
  refine w_loc rfl ?_
  refine w_loc rfl ?_
  refine w_call s_X11_thrown rfl (pz_cokI is_154 rfl) ?_
  refine w_loc rfl ?_
  refine w_ieq (fun _ => ?_) (fun q => absurd e3 q)
  refine pz_G_of pz_b344_1726 ?_
  refine w_loc rfl ?_
  refine w_zne (fun _ => ?_) (fun hc => ?_)
  · skip
    refine pz_G_of pz_b344_1743 ?_
    refine w_goto ?_
    exact K iv2 dv1 x _ _ _ hx hI
  · skip
    have hv : iv2 164 0 = b := by rw [e2]; exact hy (by omega)
    refine w_loc rfl ?_
    refine w_pure rfl ?_
    refine w_lald (v := iv2 164 0) is_164 ln_164 ⟨by decide, by decide⟩ rfl ?_
    refine w_loc rfl ?_
    refine w_pure rfl ?_
    refine w_lcmp hv ?_
    refine w_zeq (fun _ => ?_) (fun q => absurd rfl q)
    refine pz_G_of pz_b344_1743 ?_
    refine w_goto ?_
    exact K iv2 dv1 x _ _ _ hx hI
theorem t_L28 {L cc ss : Nat} {sc : Nat → Int} {iv : Nat → Nat → Int} {dv : Nat → Nat → UInt64} {i : Int} {u6 u7 u8 : Option pz_V} {Q : pz_Q} (hi : 0 ≤ i ∧ i + 5 ≤ L ∧ L ≤ 2560) (h1 : iv 1 = sc) (hQ : t_Q t_Bi sc L 151 274 t_Vi t_Vi (pz_hc 326) [.inl (sc (i + 1).toNat)] iv) (K : ∀ iv2 dv2 x (v6 v7 v8 : Option pz_V), x ≤ 1 → t_I sc iv2 → pz_G 344 2797 [some (.inr (.inl 1)), some (.inr (.inl 2)), some (.inr (.inl 154)), some (.inr (.inl 164)), some (.inr (.inl 165)), some (.inl i), v6, v7, v8] [] (pz_Sh L, iv2, dv2, cc + x, ss + 6 * x) Q) : pz_G 344 1746 [some (.inr (.inl 1)), some (.inr (.inl 2)), some (.inr (.inl 154)), some (.inr (.inl 164)), some (.inr (.inl 165)), some (.inl i), u6, u7, u8] [] (pz_Sh L, iv, dv, cc, ss) Q := by
  obtain ⟨o, Φ, b, c, hb, hr, ho, hn⟩ := hQ
  refine pz_G_of pz_b344_1746 ?_
  refine w_loc rfl ?_
  refine w_loc rfl ?_
  refine w_loc rfl ?_
  refine w_pure rfl ?_
  refine w_iadd (by omega) ?_
  refine w_sald (len := L) (v := sc (i + 1).toNat) rfl ⟨by omega, by omega⟩ (by rw [h1]) ?_
  refine w_loc rfl ?_
  refine w_callW (t_w326 hr ho) rfl rfl (fun iv1 dv1 x hx hp => ?_)
  obtain ⟨iv0, hp0, y, e0, hy⟩ := hp
  subst e0
  obtain ⟨e1, hx2⟩ := hn iv0 hp0
  obtain ⟨iv2, hr2, e2, e3, hI⟩ := hx2 y
  refine w_loc rfl ?_
  refine w_loc rfl ?_
  refine w_loc rfl ?_
  refine w_loc rfl ?_
  refine w_pure rfl ?_
  refine w_iadd (by omega) ?_
  refine w_sald (len := L) (v := sc (i + 1).toNat) rfl ⟨by omega, by omega⟩ (by show iv0 1 _ = _; rw [e1]) ?_
  refine w_call hr2 rfl (pz_cokI is_154 rfl) ?_
  refine w_loc rfl ?_
  refine w_loc rfl ?_
  refine w_call s_X11_thrown rfl (pz_cokI is_154 rfl) ?_
  refine w_loc rfl ?_
  refine w_ieq (fun _ => ?_) (fun q => absurd e3 q)
  refine pz_G_of pz_b344_1782 ?_
  refine w_loc rfl ?_
  refine w_zne (fun _ => ?_) (fun hc => ?_)
  · skip
    refine pz_G_of pz_b344_1799 ?_
    refine w_goto ?_
    exact K iv2 dv1 x _ _ _ hx hI
  · skip
    have hv : iv2 164 0 = b := by rw [e2]; exact hy (by omega)
    refine w_loc rfl ?_
    refine w_pure rfl ?_
    refine w_lald (v := iv2 164 0) is_164 ln_164 ⟨by decide, by decide⟩ rfl ?_
    refine w_loc rfl ?_
    refine w_pure rfl ?_
    refine w_lcmp hv ?_
    refine w_zeq (fun _ => ?_) (fun q => absurd rfl q)
    refine pz_G_of pz_b344_1799 ?_
    refine w_goto ?_
    exact K iv2 dv1 x _ _ _ hx hI
theorem t_L29 {L cc ss : Nat} {sc : Nat → Int} {iv : Nat → Nat → Int} {dv : Nat → Nat → UInt64} {i : Int} {u6 u7 u8 : Option pz_V} {Q : pz_Q} (hi : 0 ≤ i ∧ i + 5 ≤ L ∧ L ≤ 2560) (h1 : iv 1 = sc) (hQ : t_Q t_Bi sc L 152 275 t_Vi t_Vi (pz_hc 327) [.inl (sc (i + 1).toNat)] iv) (K : ∀ iv2 dv2 x (v6 v7 v8 : Option pz_V), x ≤ 1 → t_I sc iv2 → pz_G 344 2797 [some (.inr (.inl 1)), some (.inr (.inl 2)), some (.inr (.inl 154)), some (.inr (.inl 164)), some (.inr (.inl 165)), some (.inl i), v6, v7, v8] [] (pz_Sh L, iv2, dv2, cc + x, ss + 6 * x) Q) : pz_G 344 1802 [some (.inr (.inl 1)), some (.inr (.inl 2)), some (.inr (.inl 154)), some (.inr (.inl 164)), some (.inr (.inl 165)), some (.inl i), u6, u7, u8] [] (pz_Sh L, iv, dv, cc, ss) Q := by
  obtain ⟨o, Φ, b, c, hb, hr, ho, hn⟩ := hQ
  refine pz_G_of pz_b344_1802 ?_
  refine w_loc rfl ?_
  refine w_loc rfl ?_
  refine w_loc rfl ?_
  refine w_pure rfl ?_
  refine w_iadd (by omega) ?_
  refine w_sald (len := L) (v := sc (i + 1).toNat) rfl ⟨by omega, by omega⟩ (by rw [h1]) ?_
  refine w_loc rfl ?_
  refine w_callW (t_w327 hr ho) rfl rfl (fun iv1 dv1 x hx hp => ?_)
  obtain ⟨iv0, hp0, y, e0, hy⟩ := hp
  subst e0
  obtain ⟨e1, hx2⟩ := hn iv0 hp0
  obtain ⟨iv2, hr2, e2, e3, hI⟩ := hx2 y
  refine w_loc rfl ?_
  refine w_loc rfl ?_
  refine w_loc rfl ?_
  refine w_loc rfl ?_
  refine w_pure rfl ?_
  refine w_iadd (by omega) ?_
  refine w_sald (len := L) (v := sc (i + 1).toNat) rfl ⟨by omega, by omega⟩ (by show iv0 1 _ = _; rw [e1]) ?_
  refine w_call hr2 rfl (pz_cokI is_154 rfl) ?_
  refine w_loc rfl ?_
  refine w_loc rfl ?_
  refine w_call s_X11_thrown rfl (pz_cokI is_154 rfl) ?_
  refine w_loc rfl ?_
  refine w_ieq (fun _ => ?_) (fun q => absurd e3 q)
  refine pz_G_of pz_b344_1838 ?_
  refine w_loc rfl ?_
  refine w_zne (fun _ => ?_) (fun hc => ?_)
  · skip
    refine pz_G_of pz_b344_1855 ?_
    refine w_goto ?_
    exact K iv2 dv1 x _ _ _ hx hI
  · skip
    have hv : iv2 164 0 = b := by rw [e2]; exact hy (by omega)
    refine w_loc rfl ?_
    refine w_pure rfl ?_
    refine w_lald (v := iv2 164 0) is_164 ln_164 ⟨by decide, by decide⟩ rfl ?_
    refine w_loc rfl ?_
    refine w_pure rfl ?_
    refine w_lcmp hv ?_
    refine w_zeq (fun _ => ?_) (fun q => absurd rfl q)
    refine pz_G_of pz_b344_1855 ?_
    refine w_goto ?_
    exact K iv2 dv1 x _ _ _ hx hI
theorem t_L30 {L cc ss : Nat} {sc : Nat → Int} {iv : Nat → Nat → Int} {dv : Nat → Nat → UInt64} {i : Int} {u6 u7 u8 : Option pz_V} {Q : pz_Q} (hQ : t_Q t_Bi sc L 153 276 t_Vi t_Vi [] [] iv) (K : ∀ iv2 dv2 x (v6 v7 v8 : Option pz_V), x ≤ 1 → t_I sc iv2 → pz_G 344 2797 [some (.inr (.inl 1)), some (.inr (.inl 2)), some (.inr (.inl 154)), some (.inr (.inl 164)), some (.inr (.inl 165)), some (.inl i), v6, v7, v8] [] (pz_Sh L, iv2, dv2, cc + x, ss + 6 * x) Q) : pz_G 344 1858 [some (.inr (.inl 1)), some (.inr (.inl 2)), some (.inr (.inl 154)), some (.inr (.inl 164)), some (.inr (.inl 165)), some (.inl i), u6, u7, u8] [] (pz_Sh L, iv, dv, cc, ss) Q := by
  obtain ⟨o, Φ, b, c, hb, hr, ho, hn⟩ := hQ
  rcases ho with ⟨ho, hc⟩ | ⟨E, ho, hl, hc⟩
  · subst ho
    refine pz_G_of pz_b344_1858 ?_
    refine w_loc rfl ?_
    refine w_callE hr rfl (pz_cokI is_2 rfl) (fun iv1 hp => ?_)
    obtain ⟨e1, hx⟩ := hn iv1 hp
    obtain ⟨iv2, hr2, e2, e3, hI⟩ := hx (iv1 164)
    rw [pz_u1_self] at hr2
    refine w_loc rfl ?_
    refine w_call hr2 rfl (pz_cokI is_154 rfl) ?_
    refine w_ieq (fun _ => ?_) (fun q => absurd rfl q)
    exact K iv2 dv 0 u6 u7 u8 (by omega) hI
  · exact absurd hl (by simp [pz_lk])
theorem t_L31 {L cc ss : Nat} {sc : Nat → Int} {iv : Nat → Nat → Int} {dv : Nat → Nat → UInt64} {i : Int} {u6 u7 u8 : Option pz_V} {Q : pz_Q} (hi : 0 ≤ i ∧ i + 5 ≤ L ∧ L ≤ 2560) (h1 : iv 1 = sc) (hQ : t_Q t_Bi sc L 154 277 t_Vi t_Vi (pz_hc 328) [.inl (sc (i + 1).toNat)] iv) (K : ∀ iv2 dv2 x (v6 v7 v8 : Option pz_V), x ≤ 1 → t_I sc iv2 → pz_G 344 2797 [some (.inr (.inl 1)), some (.inr (.inl 2)), some (.inr (.inl 154)), some (.inr (.inl 164)), some (.inr (.inl 165)), some (.inl i), v6, v7, v8] [] (pz_Sh L, iv2, dv2, cc + x, ss + 6 * x) Q) : pz_G 344 1871 [some (.inr (.inl 1)), some (.inr (.inl 2)), some (.inr (.inl 154)), some (.inr (.inl 164)), some (.inr (.inl 165)), some (.inl i), u6, u7, u8] [] (pz_Sh L, iv, dv, cc, ss) Q := by
  obtain ⟨o, Φ, b, c, hb, hr, ho, hn⟩ := hQ
  refine pz_G_of pz_b344_1871 ?_
  refine w_loc rfl ?_
  refine w_loc rfl ?_
  refine w_loc rfl ?_
  refine w_pure rfl ?_
  refine w_iadd (by omega) ?_
  refine w_sald (len := L) (v := sc (i + 1).toNat) rfl ⟨by omega, by omega⟩ (by rw [h1]) ?_
  refine w_loc rfl ?_
  refine w_callW (t_w328 hr ho) rfl rfl (fun iv1 dv1 x hx hp => ?_)
  obtain ⟨iv0, hp0, y, e0, hy⟩ := hp
  subst e0
  obtain ⟨e1, hx2⟩ := hn iv0 hp0
  obtain ⟨iv2, hr2, e2, e3, hI⟩ := hx2 y
  refine w_loc rfl ?_
  refine w_loc rfl ?_
  refine w_loc rfl ?_
  refine w_loc rfl ?_
  refine w_pure rfl ?_
  refine w_iadd (by omega) ?_
  refine w_sald (len := L) (v := sc (i + 1).toNat) rfl ⟨by omega, by omega⟩ (by show iv0 1 _ = _; rw [e1]) ?_
  refine w_call hr2 rfl (pz_cokI is_154 rfl) ?_
  refine w_loc rfl ?_
  refine w_loc rfl ?_
  refine w_call s_X11_thrown rfl (pz_cokI is_154 rfl) ?_
  refine w_loc rfl ?_
  refine w_ieq (fun _ => ?_) (fun q => absurd e3 q)
  refine pz_G_of pz_b344_1907 ?_
  refine w_loc rfl ?_
  refine w_zne (fun _ => ?_) (fun hc => ?_)
  · skip
    refine pz_G_of pz_b344_1924 ?_
    refine w_goto ?_
    exact K iv2 dv1 x _ _ _ hx hI
  · skip
    have hv : iv2 164 0 = b := by rw [e2]; exact hy (by omega)
    refine w_loc rfl ?_
    refine w_pure rfl ?_
    refine w_lald (v := iv2 164 0) is_164 ln_164 ⟨by decide, by decide⟩ rfl ?_
    refine w_loc rfl ?_
    refine w_pure rfl ?_
    refine w_lcmp hv ?_
    refine w_zeq (fun _ => ?_) (fun q => absurd rfl q)
    refine pz_G_of pz_b344_1924 ?_
    refine w_goto ?_
    exact K iv2 dv1 x _ _ _ hx hI
theorem t_L32 {L cc ss : Nat} {sc : Nat → Int} {iv : Nat → Nat → Int} {dv : Nat → Nat → UInt64} {i : Int} {u6 u7 u8 : Option pz_V} {Q : pz_Q} (hi : 0 ≤ i ∧ i + 5 ≤ L ∧ L ≤ 2560) (h1 : iv 1 = sc) (hQ : t_Q t_Bi sc L 155 279 t_Vi t_Vi (pz_hc 329) [.inl (sc (i + 1).toNat), .inl (sc (i + 2).toNat), .inl (sc (i + 3).toNat)] iv) (K : ∀ iv2 dv2 x (v6 v7 v8 : Option pz_V), x ≤ 1 → t_I sc iv2 → pz_G 344 2797 [some (.inr (.inl 1)), some (.inr (.inl 2)), some (.inr (.inl 154)), some (.inr (.inl 164)), some (.inr (.inl 165)), some (.inl i), v6, v7, v8] [] (pz_Sh L, iv2, dv2, cc + x, ss + 6 * x) Q) : pz_G 344 1927 [some (.inr (.inl 1)), some (.inr (.inl 2)), some (.inr (.inl 154)), some (.inr (.inl 164)), some (.inr (.inl 165)), some (.inl i), u6, u7, u8] [] (pz_Sh L, iv, dv, cc, ss) Q := by
  obtain ⟨o, Φ, b, c, hb, hr, ho, hn⟩ := hQ
  refine pz_G_of pz_b344_1927 ?_
  refine w_loc rfl ?_
  refine w_loc rfl ?_
  refine w_loc rfl ?_
  refine w_pure rfl ?_
  refine w_iadd (by omega) ?_
  refine w_sald (len := L) (v := sc (i + 1).toNat) rfl ⟨by omega, by omega⟩ (by rw [h1]) ?_
  refine w_loc rfl ?_
  refine w_loc rfl ?_
  refine w_pure rfl ?_
  refine w_iadd (by omega) ?_
  refine w_sald (len := L) (v := sc (i + 2).toNat) rfl ⟨by omega, by omega⟩ (by rw [h1]) ?_
  refine w_loc rfl ?_
  refine w_loc rfl ?_
  refine w_pure rfl ?_
  refine w_iadd (by omega) ?_
  refine w_sald (len := L) (v := sc (i + 3).toNat) rfl ⟨by omega, by omega⟩ (by rw [h1]) ?_
  refine w_loc rfl ?_
  refine w_callW (t_w329 hr ho) rfl rfl (fun iv1 dv1 x hx hp => ?_)
  obtain ⟨iv0, hp0, y, e0, hy⟩ := hp
  subst e0
  obtain ⟨e1, hx2⟩ := hn iv0 hp0
  obtain ⟨iv2, hr2, e2, e3, hI⟩ := hx2 y
  refine w_loc rfl ?_
  refine w_loc rfl ?_
  refine w_loc rfl ?_
  refine w_loc rfl ?_
  refine w_pure rfl ?_
  refine w_iadd (by omega) ?_
  refine w_sald (len := L) (v := sc (i + 1).toNat) rfl ⟨by omega, by omega⟩ (by show iv0 1 _ = _; rw [e1]) ?_
  refine w_loc rfl ?_
  refine w_loc rfl ?_
  refine w_pure rfl ?_
  refine w_iadd (by omega) ?_
  refine w_sald (len := L) (v := sc (i + 2).toNat) rfl ⟨by omega, by omega⟩ (by show iv0 1 _ = _; rw [e1]) ?_
  refine w_loc rfl ?_
  refine w_loc rfl ?_
  refine w_pure rfl ?_
  refine w_iadd (by omega) ?_
  refine w_sald (len := L) (v := sc (i + 3).toNat) rfl ⟨by omega, by omega⟩ (by show iv0 1 _ = _; rw [e1]) ?_
  refine w_call hr2 rfl (pz_cokI is_154 rfl) ?_
  refine w_loc rfl ?_
  refine w_loc rfl ?_
  refine w_call s_X11_thrown rfl (pz_cokI is_154 rfl) ?_
  refine w_loc rfl ?_
  refine w_ieq (fun _ => ?_) (fun q => absurd e3 q)
  refine pz_G_of pz_b344_1987 ?_
  refine w_loc rfl ?_
  refine w_zne (fun _ => ?_) (fun hc => ?_)
  · skip
    refine pz_G_of pz_b344_2004 ?_
    refine w_goto ?_
    exact K iv2 dv1 x _ _ _ hx hI
  · skip
    have hv : iv2 164 0 = b := by rw [e2]; exact hy (by omega)
    refine w_loc rfl ?_
    refine w_pure rfl ?_
    refine w_lald (v := iv2 164 0) is_164 ln_164 ⟨by decide, by decide⟩ rfl ?_
    refine w_loc rfl ?_
    refine w_pure rfl ?_
    refine w_lcmp hv ?_
    refine w_zeq (fun _ => ?_) (fun q => absurd rfl q)
    refine pz_G_of pz_b344_2004 ?_
    refine w_goto ?_
    exact K iv2 dv1 x _ _ _ hx hI
theorem t_L33 {L cc ss : Nat} {sc : Nat → Int} {iv : Nat → Nat → Int} {dv : Nat → Nat → UInt64} {i : Int} {u6 u7 u8 : Option pz_V} {Q : pz_Q} (hi : 0 ≤ i ∧ i + 5 ≤ L ∧ L ≤ 2560) (h1 : iv 1 = sc) (hQ : t_Q t_Bi sc L 156 280 t_Vi t_Vi (pz_hc 330) [.inl (sc (i + 1).toNat)] iv) (K : ∀ iv2 dv2 x (v6 v7 v8 : Option pz_V), x ≤ 1 → t_I sc iv2 → pz_G 344 2797 [some (.inr (.inl 1)), some (.inr (.inl 2)), some (.inr (.inl 154)), some (.inr (.inl 164)), some (.inr (.inl 165)), some (.inl i), v6, v7, v8] [] (pz_Sh L, iv2, dv2, cc + x, ss + 6 * x) Q) : pz_G 344 2007 [some (.inr (.inl 1)), some (.inr (.inl 2)), some (.inr (.inl 154)), some (.inr (.inl 164)), some (.inr (.inl 165)), some (.inl i), u6, u7, u8] [] (pz_Sh L, iv, dv, cc, ss) Q := by
  obtain ⟨o, Φ, b, c, hb, hr, ho, hn⟩ := hQ
  refine pz_G_of pz_b344_2007 ?_
  refine w_loc rfl ?_
  refine w_loc rfl ?_
  refine w_loc rfl ?_
  refine w_pure rfl ?_
  refine w_iadd (by omega) ?_
  refine w_sald (len := L) (v := sc (i + 1).toNat) rfl ⟨by omega, by omega⟩ (by rw [h1]) ?_
  refine w_loc rfl ?_
  refine w_callW (t_w330 hr ho) rfl rfl (fun iv1 dv1 x hx hp => ?_)
  obtain ⟨iv0, hp0, y, e0, hy⟩ := hp
  subst e0
  obtain ⟨e1, hx2⟩ := hn iv0 hp0
  obtain ⟨iv2, hr2, e2, e3, hI⟩ := hx2 y
  refine w_loc rfl ?_
  refine w_loc rfl ?_
  refine w_loc rfl ?_
  refine w_loc rfl ?_
  refine w_pure rfl ?_
  refine w_iadd (by omega) ?_
  refine w_sald (len := L) (v := sc (i + 1).toNat) rfl ⟨by omega, by omega⟩ (by show iv0 1 _ = _; rw [e1]) ?_
  refine w_call hr2 rfl (pz_cokI is_154 rfl) ?_
  refine w_loc rfl ?_
  refine w_loc rfl ?_
  refine w_call s_X11_thrown rfl (pz_cokI is_154 rfl) ?_
  refine w_loc rfl ?_
  refine w_ieq (fun _ => ?_) (fun q => absurd e3 q)
  refine pz_G_of pz_b344_2043 ?_
  refine w_loc rfl ?_
  refine w_zne (fun _ => ?_) (fun hc => ?_)
  · skip
    refine pz_G_of pz_b344_2060 ?_
    refine w_goto ?_
    exact K iv2 dv1 x _ _ _ hx hI
  · skip
    have hv : iv2 164 0 = b := by rw [e2]; exact hy (by omega)
    refine w_loc rfl ?_
    refine w_pure rfl ?_
    refine w_lald (v := iv2 164 0) is_164 ln_164 ⟨by decide, by decide⟩ rfl ?_
    refine w_loc rfl ?_
    refine w_pure rfl ?_
    refine w_lcmp hv ?_
    refine w_zeq (fun _ => ?_) (fun q => absurd rfl q)
    refine pz_G_of pz_b344_2060 ?_
    refine w_goto ?_
    exact K iv2 dv1 x _ _ _ hx hI
theorem t_L34 {L cc ss : Nat} {sc : Nat → Int} {iv : Nat → Nat → Int} {dv : Nat → Nat → UInt64} {i : Int} {u6 u7 u8 : Option pz_V} {Q : pz_Q} (hi : 0 ≤ i ∧ i + 5 ≤ L ∧ L ≤ 2560) (h1 : iv 1 = sc) (hQ : t_Q t_Bi sc L 157 282 t_Vi t_Vi (pz_hc 331) [.inl (sc (i + 1).toNat)] iv) (K : ∀ iv2 dv2 x (v6 v7 v8 : Option pz_V), x ≤ 1 → t_I sc iv2 → pz_G 344 2797 [some (.inr (.inl 1)), some (.inr (.inl 2)), some (.inr (.inl 154)), some (.inr (.inl 164)), some (.inr (.inl 165)), some (.inl i), v6, v7, v8] [] (pz_Sh L, iv2, dv2, cc + x, ss + 6 * x) Q) : pz_G 344 2063 [some (.inr (.inl 1)), some (.inr (.inl 2)), some (.inr (.inl 154)), some (.inr (.inl 164)), some (.inr (.inl 165)), some (.inl i), u6, u7, u8] [] (pz_Sh L, iv, dv, cc, ss) Q := by
  obtain ⟨o, Φ, b, c, hb, hr, ho, hn⟩ := hQ
  refine pz_G_of pz_b344_2063 ?_
  refine w_loc rfl ?_
  refine w_loc rfl ?_
  refine w_loc rfl ?_
  refine w_pure rfl ?_
  refine w_iadd (by omega) ?_
  refine w_sald (len := L) (v := sc (i + 1).toNat) rfl ⟨by omega, by omega⟩ (by rw [h1]) ?_
  refine w_loc rfl ?_
  refine w_callW (t_w331 hr ho) rfl rfl (fun iv1 dv1 x hx hp => ?_)
  obtain ⟨iv0, hp0, y, e0, hy⟩ := hp
  subst e0
  obtain ⟨e1, hx2⟩ := hn iv0 hp0
  obtain ⟨iv2, hr2, e2, e3, hI⟩ := hx2 y
  refine w_loc rfl ?_
  refine w_loc rfl ?_
  refine w_loc rfl ?_
  refine w_loc rfl ?_
  refine w_pure rfl ?_
  refine w_iadd (by omega) ?_
  refine w_sald (len := L) (v := sc (i + 1).toNat) rfl ⟨by omega, by omega⟩ (by show iv0 1 _ = _; rw [e1]) ?_
  refine w_call hr2 rfl (pz_cokI is_154 rfl) ?_
  refine w_loc rfl ?_
  refine w_loc rfl ?_
  refine w_call s_X11_thrown rfl (pz_cokI is_154 rfl) ?_
  refine w_loc rfl ?_
  refine w_ieq (fun _ => ?_) (fun q => absurd e3 q)
  refine pz_G_of pz_b344_2099 ?_
  refine w_loc rfl ?_
  refine w_zne (fun _ => ?_) (fun hc => ?_)
  · skip
    refine pz_G_of pz_b344_2116 ?_
    refine w_goto ?_
    exact K iv2 dv1 x _ _ _ hx hI
  · skip
    have hv : iv2 164 0 = b := by rw [e2]; exact hy (by omega)
    refine w_loc rfl ?_
    refine w_pure rfl ?_
    refine w_lald (v := iv2 164 0) is_164 ln_164 ⟨by decide, by decide⟩ rfl ?_
    refine w_loc rfl ?_
    refine w_pure rfl ?_
    refine w_lcmp hv ?_
    refine w_zeq (fun _ => ?_) (fun q => absurd rfl q)
    refine pz_G_of pz_b344_2116 ?_
    refine w_goto ?_
    exact K iv2 dv1 x _ _ _ hx hI
theorem t_L35 {L cc ss : Nat} {sc : Nat → Int} {iv : Nat → Nat → Int} {dv : Nat → Nat → UInt64} {i : Int} {u6 u7 u8 : Option pz_V} {Q : pz_Q} (hi : 0 ≤ i ∧ i + 5 ≤ L ∧ L ≤ 2560) (h1 : iv 1 = sc) (hQ : t_Q t_Bi sc L 158 285 t_Vi t_Vi (pz_hc 332) [.inl (sc (i + 1).toNat)] iv) (K : ∀ iv2 dv2 x (v6 v7 v8 : Option pz_V), x ≤ 1 → t_I sc iv2 → pz_G 344 2797 [some (.inr (.inl 1)), some (.inr (.inl 2)), some (.inr (.inl 154)), some (.inr (.inl 164)), some (.inr (.inl 165)), some (.inl i), v6, v7, v8] [] (pz_Sh L, iv2, dv2, cc + x, ss + 6 * x) Q) : pz_G 344 2119 [some (.inr (.inl 1)), some (.inr (.inl 2)), some (.inr (.inl 154)), some (.inr (.inl 164)), some (.inr (.inl 165)), some (.inl i), u6, u7, u8] [] (pz_Sh L, iv, dv, cc, ss) Q := by
  obtain ⟨o, Φ, b, c, hb, hr, ho, hn⟩ := hQ
  refine pz_G_of pz_b344_2119 ?_
  refine w_loc rfl ?_
  refine w_loc rfl ?_
  refine w_loc rfl ?_
  refine w_pure rfl ?_
  refine w_iadd (by omega) ?_
  refine w_sald (len := L) (v := sc (i + 1).toNat) rfl ⟨by omega, by omega⟩ (by rw [h1]) ?_
  refine w_loc rfl ?_
  refine w_callW (t_w332 hr ho) rfl rfl (fun iv1 dv1 x hx hp => ?_)
  obtain ⟨iv0, hp0, y, e0, hy⟩ := hp
  subst e0
  obtain ⟨e1, hx2⟩ := hn iv0 hp0
  obtain ⟨iv2, hr2, e2, e3, hI⟩ := hx2 y
  refine w_loc rfl ?_
  refine w_loc rfl ?_
  refine w_loc rfl ?_
  refine w_loc rfl ?_
  refine w_pure rfl ?_
  refine w_iadd (by omega) ?_
  refine w_sald (len := L) (v := sc (i + 1).toNat) rfl ⟨by omega, by omega⟩ (by show iv0 1 _ = _; rw [e1]) ?_
  refine w_call hr2 rfl (pz_cokI is_154 rfl) ?_
  refine w_loc rfl ?_
  refine w_loc rfl ?_
  refine w_call s_X11_thrown rfl (pz_cokI is_154 rfl) ?_
  refine w_loc rfl ?_
  refine w_ieq (fun _ => ?_) (fun q => absurd e3 q)
  refine pz_G_of pz_b344_2155 ?_
  refine w_loc rfl ?_
  refine w_zne (fun _ => ?_) (fun hc => ?_)
  · skip
    refine pz_G_of pz_b344_2172 ?_
    refine w_goto ?_
    exact K iv2 dv1 x _ _ _ hx hI
  · skip
    have hv : iv2 164 0 = b := by rw [e2]; exact hy (by omega)
    refine w_loc rfl ?_
    refine w_pure rfl ?_
    refine w_lald (v := iv2 164 0) is_164 ln_164 ⟨by decide, by decide⟩ rfl ?_
    refine w_loc rfl ?_
    refine w_pure rfl ?_
    refine w_lcmp hv ?_
    refine w_zeq (fun _ => ?_) (fun q => absurd rfl q)
    refine pz_G_of pz_b344_2172 ?_
    refine w_goto ?_
    exact K iv2 dv1 x _ _ _ hx hI
theorem t_L36 {L cc ss : Nat} {sc : Nat → Int} {iv : Nat → Nat → Int} {dv : Nat → Nat → UInt64} {i : Int} {u6 u7 u8 : Option pz_V} {Q : pz_Q} (hi : 0 ≤ i ∧ i + 5 ≤ L ∧ L ≤ 2560) (h1 : iv 1 = sc) (hQ : t_Q t_Bi sc L 159 288 t_Vi t_Vi (pz_hc 333) [] iv) (K : ∀ iv2 dv2 x (v6 v7 v8 : Option pz_V), x ≤ 1 → t_I sc iv2 → pz_G 344 2797 [some (.inr (.inl 1)), some (.inr (.inl 2)), some (.inr (.inl 154)), some (.inr (.inl 164)), some (.inr (.inl 165)), some (.inl i), v6, v7, v8] [] (pz_Sh L, iv2, dv2, cc + x, ss + 6 * x) Q) : pz_G 344 2175 [some (.inr (.inl 1)), some (.inr (.inl 2)), some (.inr (.inl 154)), some (.inr (.inl 164)), some (.inr (.inl 165)), some (.inl i), u6, u7, u8] [] (pz_Sh L, iv, dv, cc, ss) Q := by
  obtain ⟨o, Φ, b, c, hb, hr, ho, hn⟩ := hQ
  refine pz_G_of pz_b344_2175 ?_
  refine w_loc rfl ?_
  refine w_loc rfl ?_
  refine w_callW (t_w333 hr ho) rfl rfl (fun iv1 dv1 x hx hp => ?_)
  obtain ⟨iv0, hp0, y, e0, hy⟩ := hp
  subst e0
  obtain ⟨e1, hx2⟩ := hn iv0 hp0
  obtain ⟨iv2, hr2, e2, e3, hI⟩ := hx2 y
  refine w_loc rfl ?_
  refine w_loc rfl ?_
  refine w_call hr2 rfl (pz_cokI is_154 rfl) ?_
  refine w_loc rfl ?_
  refine w_loc rfl ?_
  refine w_call s_X11_thrown rfl (pz_cokI is_154 rfl) ?_
  refine w_loc rfl ?_
  refine w_ieq (fun _ => ?_) (fun q => absurd e3 q)
  refine pz_G_of pz_b344_2199 ?_
  refine w_loc rfl ?_
  refine w_zne (fun _ => ?_) (fun hc => ?_)
  · skip
    refine pz_G_of pz_b344_2216 ?_
    refine w_goto ?_
    exact K iv2 dv1 x _ _ _ hx hI
  · skip
    have hv : iv2 164 0 = b := by rw [e2]; exact hy (by omega)
    refine w_loc rfl ?_
    refine w_pure rfl ?_
    refine w_lald (v := iv2 164 0) is_164 ln_164 ⟨by decide, by decide⟩ rfl ?_
    refine w_loc rfl ?_
    refine w_pure rfl ?_
    refine w_lcmp hv ?_
    refine w_zeq (fun _ => ?_) (fun q => absurd rfl q)
    refine pz_G_of pz_b344_2216 ?_
    refine w_goto ?_
    exact K iv2 dv1 x _ _ _ hx hI
theorem t_L37 {L cc ss : Nat} {sc : Nat → Int} {iv : Nat → Nat → Int} {dv : Nat → Nat → UInt64} {i : Int} {u6 u7 u8 : Option pz_V} {Q : pz_Q} (hi : 0 ≤ i ∧ i + 5 ≤ L ∧ L ≤ 2560) (h1 : iv 1 = sc) (hQ : t_Q t_Bi sc L 160 289 t_Vi t_Vi (pz_hc 334) [] iv) (K : ∀ iv2 dv2 x (v6 v7 v8 : Option pz_V), x ≤ 1 → t_I sc iv2 → pz_G 344 2797 [some (.inr (.inl 1)), some (.inr (.inl 2)), some (.inr (.inl 154)), some (.inr (.inl 164)), some (.inr (.inl 165)), some (.inl i), v6, v7, v8] [] (pz_Sh L, iv2, dv2, cc + x, ss + 6 * x) Q) : pz_G 344 2219 [some (.inr (.inl 1)), some (.inr (.inl 2)), some (.inr (.inl 154)), some (.inr (.inl 164)), some (.inr (.inl 165)), some (.inl i), u6, u7, u8] [] (pz_Sh L, iv, dv, cc, ss) Q := by
  obtain ⟨o, Φ, b, c, hb, hr, ho, hn⟩ := hQ
  refine pz_G_of pz_b344_2219 ?_
  refine w_loc rfl ?_
  refine w_loc rfl ?_
  refine w_callW (t_w334 hr ho) rfl rfl (fun iv1 dv1 x hx hp => ?_)
  obtain ⟨iv0, hp0, y, e0, hy⟩ := hp
  subst e0
  obtain ⟨e1, hx2⟩ := hn iv0 hp0
  obtain ⟨iv2, hr2, e2, e3, hI⟩ := hx2 y
  refine w_loc rfl ?_
  refine w_loc rfl ?_
  refine w_call hr2 rfl (pz_cokI is_154 rfl) ?_
  refine w_loc rfl ?_
  refine w_loc rfl ?_
  refine w_call s_X11_thrown rfl (pz_cokI is_154 rfl) ?_
  refine w_loc rfl ?_
  refine w_ieq (fun _ => ?_) (fun q => absurd e3 q)
  refine pz_G_of pz_b344_2243 ?_
  refine w_loc rfl ?_
  refine w_zne (fun _ => ?_) (fun hc => ?_)
  · skip
    refine pz_G_of pz_b344_2260 ?_
    refine w_goto ?_
    exact K iv2 dv1 x _ _ _ hx hI
  · skip
    have hv : iv2 164 0 = b := by rw [e2]; exact hy (by omega)
    refine w_loc rfl ?_
    refine w_pure rfl ?_
    refine w_lald (v := iv2 164 0) is_164 ln_164 ⟨by decide, by decide⟩ rfl ?_
    refine w_loc rfl ?_
    refine w_pure rfl ?_
    refine w_lcmp hv ?_
    refine w_zeq (fun _ => ?_) (fun q => absurd rfl q)
    refine pz_G_of pz_b344_2260 ?_
    refine w_goto ?_
    exact K iv2 dv1 x _ _ _ hx hI
theorem t_L38 {L cc ss : Nat} {sc : Nat → Int} {iv : Nat → Nat → Int} {dv : Nat → Nat → UInt64} {i : Int} {u6 u7 u8 : Option pz_V} {Q : pz_Q} (hi : 0 ≤ i ∧ i + 5 ≤ L ∧ L ≤ 2560) (h1 : iv 1 = sc) (hQ : t_Q t_Bi sc L 161 291 t_Vi t_Vi (pz_hc 335) [.inl (sc (i + 1).toNat), .inl (sc (i + 2).toNat)] iv) (K : ∀ iv2 dv2 x (v6 v7 v8 : Option pz_V), x ≤ 1 → t_I sc iv2 → pz_G 344 2797 [some (.inr (.inl 1)), some (.inr (.inl 2)), some (.inr (.inl 154)), some (.inr (.inl 164)), some (.inr (.inl 165)), some (.inl i), v6, v7, v8] [] (pz_Sh L, iv2, dv2, cc + x, ss + 6 * x) Q) : pz_G 344 2263 [some (.inr (.inl 1)), some (.inr (.inl 2)), some (.inr (.inl 154)), some (.inr (.inl 164)), some (.inr (.inl 165)), some (.inl i), u6, u7, u8] [] (pz_Sh L, iv, dv, cc, ss) Q := by
  obtain ⟨o, Φ, b, c, hb, hr, ho, hn⟩ := hQ
  refine pz_G_of pz_b344_2263 ?_
  refine w_loc rfl ?_
  refine w_loc rfl ?_
  refine w_loc rfl ?_
  refine w_pure rfl ?_
  refine w_iadd (by omega) ?_
  refine w_sald (len := L) (v := sc (i + 1).toNat) rfl ⟨by omega, by omega⟩ (by rw [h1]) ?_
  refine w_loc rfl ?_
  refine w_loc rfl ?_
  refine w_pure rfl ?_
  refine w_iadd (by omega) ?_
  refine w_sald (len := L) (v := sc (i + 2).toNat) rfl ⟨by omega, by omega⟩ (by rw [h1]) ?_
  refine w_loc rfl ?_
  refine w_callW (t_w335 hr ho) rfl rfl (fun iv1 dv1 x hx hp => ?_)
  obtain ⟨iv0, hp0, y, e0, hy⟩ := hp
  subst e0
  obtain ⟨e1, hx2⟩ := hn iv0 hp0
  obtain ⟨iv2, hr2, e2, e3, hI⟩ := hx2 y
  refine w_loc rfl ?_
  refine w_loc rfl ?_
  refine w_loc rfl ?_
  refine w_loc rfl ?_
  refine w_pure rfl ?_
  refine w_iadd (by omega) ?_
  refine w_sald (len := L) (v := sc (i + 1).toNat) rfl ⟨by omega, by omega⟩ (by show iv0 1 _ = _; rw [e1]) ?_
  refine w_loc rfl ?_
  refine w_loc rfl ?_
  refine w_pure rfl ?_
  refine w_iadd (by omega) ?_
  refine w_sald (len := L) (v := sc (i + 2).toNat) rfl ⟨by omega, by omega⟩ (by show iv0 1 _ = _; rw [e1]) ?_
  refine w_call hr2 rfl (pz_cokI is_154 rfl) ?_
  refine w_loc rfl ?_
  refine w_loc rfl ?_
  refine w_call s_X11_thrown rfl (pz_cokI is_154 rfl) ?_
  refine w_loc rfl ?_
  refine w_ieq (fun _ => ?_) (fun q => absurd e3 q)
  refine pz_G_of pz_b344_2311 ?_
  refine w_loc rfl ?_
  refine w_zne (fun _ => ?_) (fun hc => ?_)
  · skip
    refine pz_G_of pz_b344_2328 ?_
    refine w_goto ?_
    exact K iv2 dv1 x _ _ _ hx hI
  · skip
    have hv : iv2 164 0 = b := by rw [e2]; exact hy (by omega)
    refine w_loc rfl ?_
    refine w_pure rfl ?_
    refine w_lald (v := iv2 164 0) is_164 ln_164 ⟨by decide, by decide⟩ rfl ?_
    refine w_loc rfl ?_
    refine w_pure rfl ?_
    refine w_lcmp hv ?_
    refine w_zeq (fun _ => ?_) (fun q => absurd rfl q)
    refine pz_G_of pz_b344_2328 ?_
    refine w_goto ?_
    exact K iv2 dv1 x _ _ _ hx hI
theorem t_L39 {L cc ss : Nat} {sc : Nat → Int} {iv : Nat → Nat → Int} {dv : Nat → Nat → UInt64} {i : Int} {u6 u7 u8 : Option pz_V} {Q : pz_Q} (hi : 0 ≤ i ∧ i + 5 ≤ L ∧ L ≤ 2560) (h1 : iv 1 = sc) (hQ : t_Q t_Bi sc L 162 294 t_Vi t_Vi (pz_hc 336) [] iv) (K : ∀ iv2 dv2 x (v6 v7 v8 : Option pz_V), x ≤ 1 → t_I sc iv2 → pz_G 344 2797 [some (.inr (.inl 1)), some (.inr (.inl 2)), some (.inr (.inl 154)), some (.inr (.inl 164)), some (.inr (.inl 165)), some (.inl i), v6, v7, v8] [] (pz_Sh L, iv2, dv2, cc + x, ss + 6 * x) Q) : pz_G 344 2331 [some (.inr (.inl 1)), some (.inr (.inl 2)), some (.inr (.inl 154)), some (.inr (.inl 164)), some (.inr (.inl 165)), some (.inl i), u6, u7, u8] [] (pz_Sh L, iv, dv, cc, ss) Q := by
  obtain ⟨o, Φ, b, c, hb, hr, ho, hn⟩ := hQ
  refine pz_G_of pz_b344_2331 ?_
  refine w_loc rfl ?_
  refine w_loc rfl ?_
  refine w_callW (t_w336 hr ho) rfl rfl (fun iv1 dv1 x hx hp => ?_)
  obtain ⟨iv0, hp0, y, e0, hy⟩ := hp
  subst e0
  obtain ⟨e1, hx2⟩ := hn iv0 hp0
  obtain ⟨iv2, hr2, e2, e3, hI⟩ := hx2 y
  refine w_loc rfl ?_
  refine w_loc rfl ?_
  refine w_call hr2 rfl (pz_cokI is_154 rfl) ?_
  refine w_loc rfl ?_
  refine w_loc rfl ?_
  refine w_call s_X11_thrown rfl (pz_cokI is_154 rfl) ?_
  refine w_loc rfl ?_
  refine w_ieq (fun _ => ?_) (fun q => absurd e3 q)
  refine pz_G_of pz_b344_2355 ?_
  refine w_loc rfl ?_
  refine w_zne (fun _ => ?_) (fun hc => ?_)
  · skip
    refine pz_G_of pz_b344_2372 ?_
    refine w_goto ?_
    exact K iv2 dv1 x _ _ _ hx hI
  · skip
    have hv : iv2 164 0 = b := by rw [e2]; exact hy (by omega)
    refine w_loc rfl ?_
    refine w_pure rfl ?_
    refine w_lald (v := iv2 164 0) is_164 ln_164 ⟨by decide, by decide⟩ rfl ?_
    refine w_loc rfl ?_
    refine w_pure rfl ?_
    refine w_lcmp hv ?_
    refine w_zeq (fun _ => ?_) (fun q => absurd rfl q)
    refine pz_G_of pz_b344_2372 ?_
    refine w_goto ?_
    exact K iv2 dv1 x _ _ _ hx hI
theorem t_L40 {L cc ss : Nat} {sc : Nat → Int} {iv : Nat → Nat → Int} {dv : Nat → Nat → UInt64} {i : Int} {u6 u7 u8 : Option pz_V} {Q : pz_Q} (hi : 0 ≤ i ∧ i + 5 ≤ L ∧ L ≤ 2560) (h1 : iv 1 = sc) (hQ : t_Q t_Bi sc L 163 295 t_Vi t_Vi (pz_hc 337) [.inl (sc (i + 1).toNat), .inl (sc (i + 2).toNat), .inl (sc (i + 3).toNat), .inl (sc (i + 4).toNat)] iv) (K : ∀ iv2 dv2 x (v6 v7 v8 : Option pz_V), x ≤ 1 → t_I sc iv2 → pz_G 344 2797 [some (.inr (.inl 1)), some (.inr (.inl 2)), some (.inr (.inl 154)), some (.inr (.inl 164)), some (.inr (.inl 165)), some (.inl i), v6, v7, v8] [] (pz_Sh L, iv2, dv2, cc + x, ss + 6 * x) Q) : pz_G 344 2375 [some (.inr (.inl 1)), some (.inr (.inl 2)), some (.inr (.inl 154)), some (.inr (.inl 164)), some (.inr (.inl 165)), some (.inl i), u6, u7, u8] [] (pz_Sh L, iv, dv, cc, ss) Q := by
  obtain ⟨o, Φ, b, c, hb, hr, ho, hn⟩ := hQ
  refine pz_G_of pz_b344_2375 ?_
  refine w_loc rfl ?_
  refine w_loc rfl ?_
  refine w_loc rfl ?_
  refine w_pure rfl ?_
  refine w_iadd (by omega) ?_
  refine w_sald (len := L) (v := sc (i + 1).toNat) rfl ⟨by omega, by omega⟩ (by rw [h1]) ?_
  refine w_loc rfl ?_
  refine w_loc rfl ?_
  refine w_pure rfl ?_
  refine w_iadd (by omega) ?_
  refine w_sald (len := L) (v := sc (i + 2).toNat) rfl ⟨by omega, by omega⟩ (by rw [h1]) ?_
  refine w_loc rfl ?_
  refine w_loc rfl ?_
  refine w_pure rfl ?_
  refine w_iadd (by omega) ?_
  refine w_sald (len := L) (v := sc (i + 3).toNat) rfl ⟨by omega, by omega⟩ (by rw [h1]) ?_
  refine w_loc rfl ?_
  refine w_loc rfl ?_
  refine w_pure rfl ?_
  refine w_iadd (by omega) ?_
  refine w_sald (len := L) (v := sc (i + 4).toNat) rfl ⟨by omega, by omega⟩ (by rw [h1]) ?_
  refine w_loc rfl ?_
  refine w_callW (t_w337 hr ho) rfl rfl (fun iv1 dv1 x hx hp => ?_)
  obtain ⟨iv0, hp0, y, e0, hy⟩ := hp
  subst e0
  obtain ⟨e1, hx2⟩ := hn iv0 hp0
  obtain ⟨iv2, hr2, e2, e3, hI⟩ := hx2 y
  refine w_loc rfl ?_
  refine w_loc rfl ?_
  refine w_loc rfl ?_
  refine w_loc rfl ?_
  refine w_pure rfl ?_
  refine w_iadd (by omega) ?_
  refine w_sald (len := L) (v := sc (i + 1).toNat) rfl ⟨by omega, by omega⟩ (by show iv0 1 _ = _; rw [e1]) ?_
  refine w_loc rfl ?_
  refine w_loc rfl ?_
  refine w_pure rfl ?_
  refine w_iadd (by omega) ?_
  refine w_sald (len := L) (v := sc (i + 2).toNat) rfl ⟨by omega, by omega⟩ (by show iv0 1 _ = _; rw [e1]) ?_
  refine w_loc rfl ?_
  refine w_loc rfl ?_
  refine w_pure rfl ?_
  refine w_iadd (by omega) ?_
  refine w_sald (len := L) (v := sc (i + 3).toNat) rfl ⟨by omega, by omega⟩ (by show iv0 1 _ = _; rw [e1]) ?_
  refine w_loc rfl ?_
  refine w_loc rfl ?_
  refine w_pure rfl ?_
  refine w_iadd (by omega) ?_
  refine w_sald (len := L) (v := sc (i + 4).toNat) rfl ⟨by omega, by omega⟩ (by show iv0 1 _ = _; rw [e1]) ?_
  refine w_call hr2 rfl (pz_cokI is_154 rfl) ?_
  refine w_loc rfl ?_
  refine w_loc rfl ?_
  refine w_call s_X11_thrown rfl (pz_cokI is_154 rfl) ?_
  refine w_loc rfl ?_
  refine w_ieq (fun _ => ?_) (fun q => absurd e3 q)
  refine pz_G_of pz_b344_2447 ?_
  refine w_loc rfl ?_
  refine w_zne (fun _ => ?_) (fun hc => ?_)
  · skip
    refine pz_G_of pz_b344_2464 ?_
    refine w_goto ?_
    exact K iv2 dv1 x _ _ _ hx hI
  · skip
    have hv : iv2 164 0 = b := by rw [e2]; exact hy (by omega)
    refine w_loc rfl ?_
    refine w_pure rfl ?_
    refine w_lald (v := iv2 164 0) is_164 ln_164 ⟨by decide, by decide⟩ rfl ?_
    refine w_loc rfl ?_
    refine w_pure rfl ?_
    refine w_lcmp hv ?_
    refine w_zeq (fun _ => ?_) (fun q => absurd rfl q)
    refine pz_G_of pz_b344_2464 ?_
    refine w_goto ?_
    exact K iv2 dv1 x _ _ _ hx hI
theorem t_L41 {L cc ss : Nat} {sc : Nat → Int} {iv : Nat → Nat → Int} {dv : Nat → Nat → UInt64} {i : Int} {u6 u7 u8 : Option pz_V} {Q : pz_Q} (hi : 0 ≤ i ∧ i + 5 ≤ L ∧ L ≤ 2560) (h1 : iv 1 = sc) (hQ : t_Q t_Bi sc L 164 297 t_Vi t_Vi (pz_hc 338) [.inl (sc (i + 1).toNat), .inl (sc (i + 2).toNat)] iv) (K : ∀ iv2 dv2 x (v6 v7 v8 : Option pz_V), x ≤ 1 → t_I sc iv2 → pz_G 344 2797 [some (.inr (.inl 1)), some (.inr (.inl 2)), some (.inr (.inl 154)), some (.inr (.inl 164)), some (.inr (.inl 165)), some (.inl i), v6, v7, v8] [] (pz_Sh L, iv2, dv2, cc + x, ss + 6 * x) Q) : pz_G 344 2467 [some (.inr (.inl 1)), some (.inr (.inl 2)), some (.inr (.inl 154)), some (.inr (.inl 164)), some (.inr (.inl 165)), some (.inl i), u6, u7, u8] [] (pz_Sh L, iv, dv, cc, ss) Q := by
  obtain ⟨o, Φ, b, c, hb, hr, ho, hn⟩ := hQ
  refine pz_G_of pz_b344_2467 ?_
  refine w_loc rfl ?_
  refine w_loc rfl ?_
  refine w_loc rfl ?_
  refine w_pure rfl ?_
  refine w_iadd (by omega) ?_
  refine w_sald (len := L) (v := sc (i + 1).toNat) rfl ⟨by omega, by omega⟩ (by rw [h1]) ?_
  refine w_loc rfl ?_
  refine w_loc rfl ?_
  refine w_pure rfl ?_
  refine w_iadd (by omega) ?_
  refine w_sald (len := L) (v := sc (i + 2).toNat) rfl ⟨by omega, by omega⟩ (by rw [h1]) ?_
  refine w_loc rfl ?_
  refine w_callW (t_w338 hr ho) rfl rfl (fun iv1 dv1 x hx hp => ?_)
  obtain ⟨iv0, hp0, y, e0, hy⟩ := hp
  subst e0
  obtain ⟨e1, hx2⟩ := hn iv0 hp0
  obtain ⟨iv2, hr2, e2, e3, hI⟩ := hx2 y
  refine w_loc rfl ?_
  refine w_loc rfl ?_
  refine w_loc rfl ?_
  refine w_loc rfl ?_
  refine w_pure rfl ?_
  refine w_iadd (by omega) ?_
  refine w_sald (len := L) (v := sc (i + 1).toNat) rfl ⟨by omega, by omega⟩ (by show iv0 1 _ = _; rw [e1]) ?_
  refine w_loc rfl ?_
  refine w_loc rfl ?_
  refine w_pure rfl ?_
  refine w_iadd (by omega) ?_
  refine w_sald (len := L) (v := sc (i + 2).toNat) rfl ⟨by omega, by omega⟩ (by show iv0 1 _ = _; rw [e1]) ?_
  refine w_call hr2 rfl (pz_cokI is_154 rfl) ?_
  refine w_loc rfl ?_
  refine w_loc rfl ?_
  refine w_call s_X11_thrown rfl (pz_cokI is_154 rfl) ?_
  refine w_loc rfl ?_
  refine w_ieq (fun _ => ?_) (fun q => absurd e3 q)
  refine pz_G_of pz_b344_2515 ?_
  refine w_loc rfl ?_
  refine w_zne (fun _ => ?_) (fun hc => ?_)
  · skip
    refine pz_G_of pz_b344_2532 ?_
    refine w_goto ?_
    exact K iv2 dv1 x _ _ _ hx hI
  · skip
    have hv : iv2 164 0 = b := by rw [e2]; exact hy (by omega)
    refine w_loc rfl ?_
    refine w_pure rfl ?_
    refine w_lald (v := iv2 164 0) is_164 ln_164 ⟨by decide, by decide⟩ rfl ?_
    refine w_loc rfl ?_
    refine w_pure rfl ?_
    refine w_lcmp hv ?_
    refine w_zeq (fun _ => ?_) (fun q => absurd rfl q)
    refine pz_G_of pz_b344_2532 ?_
    refine w_goto ?_
    exact K iv2 dv1 x _ _ _ hx hI
theorem t_L42 {L cc ss : Nat} {sc : Nat → Int} {iv : Nat → Nat → Int} {dv : Nat → Nat → UInt64} {i : Int} {u6 u7 u8 : Option pz_V} {Q : pz_Q} (hi : 0 ≤ i ∧ i + 5 ≤ L ∧ L ≤ 2560) (h1 : iv 1 = sc) (hQ : t_Q t_Bi sc L 165 298 t_Vj t_Vj (pz_hc 339) [] iv) (K : ∀ iv2 dv2 x (v6 v7 v8 : Option pz_V), x ≤ 1 → t_I sc iv2 → pz_G 344 2797 [some (.inr (.inl 1)), some (.inr (.inl 2)), some (.inr (.inl 154)), some (.inr (.inl 164)), some (.inr (.inl 165)), some (.inl i), v6, v7, v8] [] (pz_Sh L, iv2, dv2, cc + x, ss + 6 * x) Q) : pz_G 344 2535 [some (.inr (.inl 1)), some (.inr (.inl 2)), some (.inr (.inl 154)), some (.inr (.inl 164)), some (.inr (.inl 165)), some (.inl i), u6, u7, u8] [] (pz_Sh L, iv, dv, cc, ss) Q := by
  obtain ⟨o, Φ, b, c, hb, hr, ho, hn⟩ := hQ
  refine pz_G_of pz_b344_2535 ?_
  refine w_loc rfl ?_
  refine w_loc rfl ?_
  refine w_callW (t_w339 hr ho) rfl rfl (fun iv1 dv1 x hx hp => ?_)
  obtain ⟨iv0, hp0, y, e0, hy⟩ := hp
  subst e0
  obtain ⟨e1, hx2⟩ := hn iv0 hp0
  obtain ⟨iv2, hr2, e2, e3, hI⟩ := hx2 y
  refine w_loc rfl ?_
  refine w_loc rfl ?_
  refine w_call hr2 rfl (pz_cokI is_154 rfl) ?_
  refine w_loc rfl ?_
  refine w_loc rfl ?_
  refine w_call s_X11_thrown rfl (pz_cokI is_154 rfl) ?_
  refine w_loc rfl ?_
  refine w_ieq (fun _ => ?_) (fun q => absurd e3 q)
  refine pz_G_of pz_b344_2559 ?_
  refine w_loc rfl ?_
  refine w_zne (fun _ => ?_) (fun hc => ?_)
  · skip
    refine pz_G_of pz_b344_2575 ?_
    refine w_goto ?_
    exact K iv2 dv1 x _ _ _ hx hI
  · skip
    have hv : iv2 164 0 = b := by rw [e2]; exact hy (by omega)
    refine w_loc rfl ?_
    refine w_pure rfl ?_
    refine w_lald (v := iv2 164 0) is_164 ln_164 ⟨by decide, by decide⟩ rfl ?_
    refine w_loc rfl ?_
    refine w_lcmp hv ?_
    refine w_zeq (fun _ => ?_) (fun q => absurd rfl q)
    refine pz_G_of pz_b344_2575 ?_
    refine w_goto ?_
    exact K iv2 dv1 x _ _ _ hx hI
theorem t_L43 {L cc ss : Nat} {sc : Nat → Int} {iv : Nat → Nat → Int} {dv : Nat → Nat → UInt64} {i : Int} {u6 u7 u8 : Option pz_V} {Q : pz_Q} (hi : 0 ≤ i ∧ i + 5 ≤ L ∧ L ≤ 2560) (h1 : iv 1 = sc) (hQ : t_Q t_Bi sc L 166 299 t_Vi t_Vi (pz_hc 340) [] iv) (K : ∀ iv2 dv2 x (v6 v7 v8 : Option pz_V), x ≤ 1 → t_I sc iv2 → pz_G 344 2797 [some (.inr (.inl 1)), some (.inr (.inl 2)), some (.inr (.inl 154)), some (.inr (.inl 164)), some (.inr (.inl 165)), some (.inl i), v6, v7, v8] [] (pz_Sh L, iv2, dv2, cc + x, ss + 6 * x) Q) : pz_G 344 2578 [some (.inr (.inl 1)), some (.inr (.inl 2)), some (.inr (.inl 154)), some (.inr (.inl 164)), some (.inr (.inl 165)), some (.inl i), u6, u7, u8] [] (pz_Sh L, iv, dv, cc, ss) Q := by
  obtain ⟨o, Φ, b, c, hb, hr, ho, hn⟩ := hQ
  refine pz_G_of pz_b344_2578 ?_
  refine w_loc rfl ?_
  refine w_loc rfl ?_
  refine w_callW (t_w340 hr ho) rfl rfl (fun iv1 dv1 x hx hp => ?_)
  obtain ⟨iv0, hp0, y, e0, hy⟩ := hp
  subst e0
  obtain ⟨e1, hx2⟩ := hn iv0 hp0
  obtain ⟨iv2, hr2, e2, e3, hI⟩ := hx2 y
  refine w_loc rfl ?_
  refine w_loc rfl ?_
  refine w_call hr2 rfl (pz_cokI is_154 rfl) ?_
  refine w_loc rfl ?_
  refine w_loc rfl ?_
  refine w_call s_X11_thrown rfl (pz_cokI is_154 rfl) ?_
  refine w_loc rfl ?_
  refine w_ieq (fun _ => ?_) (fun q => absurd e3 q)
  refine pz_G_of pz_b344_2602 ?_
  refine w_loc rfl ?_
  refine w_zne (fun _ => ?_) (fun hc => ?_)
  · skip
    refine pz_G_of pz_b344_2619 ?_
    refine w_goto ?_
    exact K iv2 dv1 x _ _ _ hx hI
  · skip
    have hv : iv2 164 0 = b := by rw [e2]; exact hy (by omega)
    refine w_loc rfl ?_
    refine w_pure rfl ?_
    refine w_lald (v := iv2 164 0) is_164 ln_164 ⟨by decide, by decide⟩ rfl ?_
    refine w_loc rfl ?_
    refine w_pure rfl ?_
    refine w_lcmp hv ?_
    refine w_zeq (fun _ => ?_) (fun q => absurd rfl q)
    refine pz_G_of pz_b344_2619 ?_
    refine w_goto ?_
    exact K iv2 dv1 x _ _ _ hx hI
theorem t_L44 {L cc ss : Nat} {sc : Nat → Int} {iv : Nat → Nat → Int} {dv : Nat → Nat → UInt64} {i : Int} {u6 u7 u8 : Option pz_V} {Q : pz_Q} (hi : 0 ≤ i ∧ i + 5 ≤ L ∧ L ≤ 2560) (h1 : iv 1 = sc) (hQ : t_Q t_Bi sc L 167 300 t_Vi t_Vi (pz_hc 341) [] iv) (K : ∀ iv2 dv2 x (v6 v7 v8 : Option pz_V), x ≤ 1 → t_I sc iv2 → pz_G 344 2797 [some (.inr (.inl 1)), some (.inr (.inl 2)), some (.inr (.inl 154)), some (.inr (.inl 164)), some (.inr (.inl 165)), some (.inl i), v6, v7, v8] [] (pz_Sh L, iv2, dv2, cc + x, ss + 6 * x) Q) : pz_G 344 2622 [some (.inr (.inl 1)), some (.inr (.inl 2)), some (.inr (.inl 154)), some (.inr (.inl 164)), some (.inr (.inl 165)), some (.inl i), u6, u7, u8] [] (pz_Sh L, iv, dv, cc, ss) Q := by
  obtain ⟨o, Φ, b, c, hb, hr, ho, hn⟩ := hQ
  refine pz_G_of pz_b344_2622 ?_
  refine w_loc rfl ?_
  refine w_loc rfl ?_
  refine w_callW (t_w341 hr ho) rfl rfl (fun iv1 dv1 x hx hp => ?_)
  obtain ⟨iv0, hp0, y, e0, hy⟩ := hp
  subst e0
  obtain ⟨e1, hx2⟩ := hn iv0 hp0
  obtain ⟨iv2, hr2, e2, e3, hI⟩ := hx2 y
  refine w_loc rfl ?_
  refine w_loc rfl ?_
  refine w_call hr2 rfl (pz_cokI is_154 rfl) ?_
  refine w_loc rfl ?_
  refine w_loc rfl ?_
  refine w_call s_X11_thrown rfl (pz_cokI is_154 rfl) ?_
  refine w_loc rfl ?_
  refine w_ieq (fun _ => ?_) (fun q => absurd e3 q)
  refine pz_G_of pz_b344_2646 ?_
  refine w_loc rfl ?_
  refine w_zne (fun _ => ?_) (fun hc => ?_)
  · skip
    refine pz_G_of pz_b344_2663 ?_
    refine w_goto ?_
    exact K iv2 dv1 x _ _ _ hx hI
  · skip
    have hv : iv2 164 0 = b := by rw [e2]; exact hy (by omega)
    refine w_loc rfl ?_
    refine w_pure rfl ?_
    refine w_lald (v := iv2 164 0) is_164 ln_164 ⟨by decide, by decide⟩ rfl ?_
    refine w_loc rfl ?_
    refine w_pure rfl ?_
    refine w_lcmp hv ?_
    refine w_zeq (fun _ => ?_) (fun q => absurd rfl q)
    refine pz_G_of pz_b344_2663 ?_
    refine w_goto ?_
    exact K iv2 dv1 x _ _ _ hx hI
