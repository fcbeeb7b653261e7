
theorem s_X11_wrongPlay_1 {L : Nat} {iv : Nat → Nat → Int} (p : Int) (hk : q_KR (iv 155)) (hcase0 : ¬ (0 ≤ p ∧ p ≤ q_p2 (iv 155 2) - 1)) : pz_R (pz_Sh L) 258 [.inr (.inl 154), .inl p] iv (.inl (some (.inl 1))) (pz_u1 (pz_u1 (pz_u1 (pz_u1 iv 154 (iv 154)) 157 (iv 157)) 158 (iv 158)) 159 (iv 159)) := by
  intro dv cc ss
  have hk0 := hk.r0
  have hsh := q_shl_p2 (a := iv 155 2) (by omega) (by omega)
  have hp2 := q_p2_r (a := iv 155 2) (by omega) (by omega)
  have hz7 := q_zw_7 (k := iv 155) (lf := iv 161) (g := iv 157) (v := iv 158) (a := iv 159) (w := iv 154)
  refine pz_G_mem (iv2 := pz_u1 (pz_u1 (pz_u1 (pz_u1 iv 154 (iv 154)) 157 (iv 157)) 158 (iv 158)) 159 (iv 159)) (by exact ((((pz_u1_self iv 154).symm).trans (pz_u1_self (pz_u1 iv 154 (iv 154)) 157).symm).trans (pz_u1_self (pz_u1 (pz_u1 iv 154 (iv 154)) 157 (iv 157)) 158).symm).trans (pz_u1_self (pz_u1 (pz_u1 (pz_u1 iv 154 (iv 154)) 157 (iv 157)) 158 (iv 158)) 159).symm) ?_
  show pz_G 258 0 [some (.inr (.inl 154)), some (.inl p), none, none] [] (pz_Sh L, pz_u1 (pz_u1 (pz_u1 (pz_u1 iv 154 (iv 154)) 157 (iv 157)) 158 (iv 158)) 159 (iv 159), dv, cc, ss) (pz_P (pz_Sh L) (.inl (some (.inl 1))) (pz_u1 (pz_u1 (pz_u1 (pz_u1 iv 154 (iv 154)) 157 (iv 157)) 158 (iv 158)) 159 (iv 159)) dv cc ss)
  refine pz_G_of pz_b258_0 ?_
  refine w_loc rfl ?_
  refine w_pure rfl ?_
  refine w_pure rfl ?_
  refine w_loc rfl ?_
  refine w_getR (q := 155) is_154 rf_154_1 ?_
  refine w_pure rfl ?_
  refine w_iald (v := (iv 155) 2) is_155 ln_155 ⟨by omega, by omega⟩ rfl ?_
  refine w_ishl ?_
  refine w_pure rfl ?_
  refine w_isub (by omega) ?_
  have hc1 : pz_R (pz_Sh L) 190 [.inl p, .inl 0, .inl ((pz_shl 1 ((iv 155) 2)) - 1)] (pz_u1 (pz_u1 (pz_u1 (pz_u1 iv 154 (iv 154)) 157 (iv 157)) 158 (iv 158)) 159 (iv 159)) (.inl (some (.inl (pz_bi (0 ≤ p ∧ p ≤ ((pz_shl 1 ((iv 155) 2)) - 1)))))) (pz_u1 (pz_u1 (pz_u1 (pz_u1 iv 154 (iv 154)) 157 (iv 157)) 158 (iv 158)) 159 (iv 159)) := s_X11_in p 0 ((pz_shl 1 ((iv 155) 2)) - 1)
  refine w_call hc1 rfl rfl ?_
  refine w_bne (fun h2 => ?_) (fun h2 => ?_)
  · first
    | (exfalso; first | omega | contradiction)
    | (exfalso; first | omega | contradiction)
  · first
    | (exfalso; first | omega | contradiction)
    | (refine w_pure rfl ?_
       refine w_ret rfl ?_
       first | exact lf_i (by first | rfl | omega) (by rfl) | (exfalso; omega))

theorem s_X11_wrongPlay_2a {L : Nat} {iv : Nat → Nat → Int} (p : Int) (hk : q_KR (iv 155)) (hcase0 : 0 ≤ p ∧ p ≤ q_p2 (iv 155 2) - 1) (hcase1 : q_exi (fun i => 1 ≤ i ∧ q_sta (iv 155) i) ((iv 155) 0)) : pz_R (pz_Sh L) 258 [.inr (.inl 154), .inl p] iv (.inl (some (.inl 2))) (pz_u1 (pz_u1 (pz_u1 (pz_u1 iv 154 (q_zw (iv 155) (iv 161) (iv 157) (iv 158) (iv 159) (iv 154))) 157 ((q_zX (iv 155) (iv 161) (iv 157) (iv 158) (iv 159)).2.2)) 158 ((q_zX (iv 155) (iv 161) (iv 157) (iv 158) (iv 159)).1)) 159 ((q_zX (iv 155) (iv 161) (iv 157) (iv 158) (iv 159)).2.1)) := by
  intro dv cc ss
  have hk0 := hk.r0
  have hsh := q_shl_p2 (a := iv 155 2) (by omega) (by omega)
  have hp2 := q_p2_r (a := iv 155 2) (by omega) (by omega)
  have hz7 := q_zw_7 (k := iv 155) (lf := iv 161) (g := iv 157) (v := iv 158) (a := iv 159) (w := iv 154)
  refine pz_G_mem (iv2 := pz_u1 (pz_u1 (pz_u1 (pz_u1 iv 154 (iv 154)) 157 (iv 157)) 158 (iv 158)) 159 (iv 159)) (by exact ((((pz_u1_self iv 154).symm).trans (pz_u1_self (pz_u1 iv 154 (iv 154)) 157).symm).trans (pz_u1_self (pz_u1 (pz_u1 iv 154 (iv 154)) 157 (iv 157)) 158).symm).trans (pz_u1_self (pz_u1 (pz_u1 (pz_u1 iv 154 (iv 154)) 157 (iv 157)) 158 (iv 158)) 159).symm) ?_
  show pz_G 258 0 [some (.inr (.inl 154)), some (.inl p), none, none] [] (pz_Sh L, pz_u1 (pz_u1 (pz_u1 (pz_u1 iv 154 (iv 154)) 157 (iv 157)) 158 (iv 158)) 159 (iv 159), dv, cc, ss) (pz_P (pz_Sh L) (.inl (some (.inl 2))) (pz_u1 (pz_u1 (pz_u1 (pz_u1 iv 154 (q_zw (iv 155) (iv 161) (iv 157) (iv 158) (iv 159) (iv 154))) 157 ((q_zX (iv 155) (iv 161) (iv 157) (iv 158) (iv 159)).2.2)) 158 ((q_zX (iv 155) (iv 161) (iv 157) (iv 158) (iv 159)).1)) 159 ((q_zX (iv 155) (iv 161) (iv 157) (iv 158) (iv 159)).2.1)) dv cc ss)
  refine pz_G_of pz_b258_0 ?_
  refine w_loc rfl ?_
  refine w_pure rfl ?_
  refine w_pure rfl ?_
  refine w_loc rfl ?_
  refine w_getR (q := 155) is_154 rf_154_1 ?_
  refine w_pure rfl ?_
  refine w_iald (v := (iv 155) 2) is_155 ln_155 ⟨by omega, by omega⟩ rfl ?_
  refine w_ishl ?_
  refine w_pure rfl ?_
  refine w_isub (by omega) ?_
  have hc1 : pz_R (pz_Sh L) 190 [.inl p, .inl 0, .inl ((pz_shl 1 ((iv 155) 2)) - 1)] (pz_u1 (pz_u1 (pz_u1 (pz_u1 iv 154 (iv 154)) 157 (iv 157)) 158 (iv 158)) 159 (iv 159)) (.inl (some (.inl (pz_bi (0 ≤ p ∧ p ≤ ((pz_shl 1 ((iv 155) 2)) - 1)))))) (pz_u1 (pz_u1 (pz_u1 (pz_u1 iv 154 (iv 154)) 157 (iv 157)) 158 (iv 158)) 159 (iv 159)) := s_X11_in p 0 ((pz_shl 1 ((iv 155) 2)) - 1)
  refine w_call hc1 rfl rfl ?_
  refine w_bne (fun h2 => ?_) (fun h2 => ?_)
  · first
    | (exfalso; first | omega | contradiction)
    | (refine pz_G_of pz_b258_20 ?_
       refine w_pure rfl ?_
       refine w_loc (ls' := [some (.inr (.inl 154)), some (.inl p), some (.inl 0), none]) (st' := []) rfl ?_
       refine w_pure rfl ?_
       refine w_loc (ls' := [some (.inr (.inl 154)), some (.inl p), some (.inl 0), some (.inl 1)]) (st' := []) rfl ?_
       refine w_nil ?_
       have lp24 : ∀ (dd : Nat) (z : Int) (e : Int) , (iv 155 0 - e).toNat = dd → ∀ (he : 1 ≤ e ∧ e ≤ iv 155 0), ∀ (hz : z = pz_bi (q_exi (fun i => 1 ≤ i ∧ q_sta (iv 155) i) e)),  pz_G 258 24 [some (.inr (.inl 154)), some (.inl p), some (.inl z), some (.inl e)] [] (pz_Sh L, pz_u1 (pz_u1 (pz_u1 (pz_u1 iv 154 (iv 154)) 157 (iv 157)) 158 (iv 158)) 159 (iv 159), dv, cc, ss) (pz_P (pz_Sh L) (.inl (some (.inl 2))) (pz_u1 (pz_u1 (pz_u1 (pz_u1 iv 154 (q_zw (iv 155) (iv 161) (iv 157) (iv 158) (iv 159) (iv 154))) 157 ((q_zX (iv 155) (iv 161) (iv 157) (iv 158) (iv 159)).2.2)) 158 ((q_zX (iv 155) (iv 161) (iv 157) (iv 158) (iv 159)).1)) 159 ((q_zX (iv 155) (iv 161) (iv 157) (iv 158) (iv 159)).2.1)) dv cc ss) := by
         intro dd24
         induction dd24 using Nat.strongRecOn with
         | _ dd24 ih24 =>
         intro z e  hd24 he hz
         refine pz_G_of pz_b258_24 ?_
         refine w_loc rfl ?_
         refine w_loc rfl ?_
         refine w_getR (q := 155) is_154 rf_154_1 ?_
         refine w_pure rfl ?_
         refine w_iald (v := (iv 155) 0) is_155 ln_155 ⟨by omega, by omega⟩ rfl ?_
         refine w_ige (fun h3 => ?_) (fun h3 => ?_)
         · first
           | (exfalso; first | omega | contradiction)
           | (have hz9 : z = pz_bi (q_exi (fun i => 1 ≤ i ∧ q_sta (iv 155) i) ((iv 155) 0)) := by
                rw [hz, show e = iv 155 0 by omega]
              rw [pz_bi_1 hcase1] at hz9
              refine pz_G_of pz_b258_58 ?_
              refine w_loc rfl ?_
              have hc4 : pz_R (pz_Sh L) 247 [.inr (.inl 154)] (pz_u1 (pz_u1 (pz_u1 (pz_u1 iv 154 (iv 154)) 157 (iv 157)) 158 (iv 158)) 159 (iv 159)) (.inl none) (pz_u1 (pz_u1 (pz_u1 (pz_u1 iv 154 (q_zw (iv 155) (iv 161) (iv 157) (iv 158) (iv 159) (iv 154))) 157 ((q_zX (iv 155) (iv 161) (iv 157) (iv 158) (iv 159)).2.2)) 158 ((q_zX (iv 155) (iv 161) (iv 157) (iv 158) (iv 159)).1)) 159 ((q_zX (iv 155) (iv 161) (iv 157) (iv 158) (iv 159)).2.1)) := pz_R_mem (s_X11_reduces (by show q_KR (iv 155); exact hk)) (by rw [pz_u1_in (r := 154) (q := 159) (by decide)]; rw [pz_u1_in (r := 154) (q := 158) (by decide)]; rw [pz_u1_in (r := 154) (q := 157) (by decide)]; rw [pz_u1_top (r := 154)]; rw [pz_u1_in (r := 157) (q := 159) (by decide)]; rw [pz_u1_in (r := 157) (q := 158) (by decide)]; rw [pz_u1_top (r := 157)]; rw [pz_u1_in (r := 158) (q := 159) (by decide)]; rw [pz_u1_top (r := 158)]; rw [pz_u1_top (r := 159)]; rfl)
              refine w_callv hc4 rfl (pz_cokI is_154 rfl) ?_
              refine w_loc rfl ?_
              refine w_zne (fun h5 => ?_) (fun h5 => ?_)
              · first
                | (exfalso; first | omega | contradiction)
                | (refine pz_G_of pz_b258_73 ?_
                   refine w_pure rfl ?_
                   refine w_goto ?_
                   refine pz_G_of pz_b258_78 ?_
                   refine w_ret rfl ?_
                   first | exact lf_i (by first | rfl | omega) (by rfl) | (exfalso; omega))
              · first
                | (exfalso; first | omega | contradiction)
                | (refine w_loc rfl ?_
                   refine w_getI (v := (q_zw (iv 155) (iv 161) (iv 157) (iv 158) (iv 159) (iv 154)) 7) is_154 (by decide) rfl ?_
                   refine w_zne (fun h6 => ?_) (fun h6 => ?_)
                   · first
                     | (exfalso; first | omega | contradiction)
                     | (refine pz_G_of pz_b258_77 ?_
                        refine w_pure rfl ?_
                        refine w_nil ?_
                        refine pz_G_of pz_b258_78 ?_
                        refine w_ret rfl ?_
                        first | exact lf_i (by first | rfl | omega) (by rfl) | (exfalso; omega))
                   · first
                     | (exfalso; first | omega | contradiction)
                     | (refine w_nil ?_
                        refine pz_G_of pz_b258_73 ?_
                        refine w_pure rfl ?_
                        refine w_goto ?_
                        refine pz_G_of pz_b258_78 ?_
                        refine w_ret rfl ?_
                        first | exact lf_i (by first | rfl | omega) (by rfl) | (exfalso; omega))))
         · first
           | (exfalso; first | omega | contradiction)
           | (refine w_loc rfl ?_
              refine w_zne (fun h7 => ?_) (fun h7 => ?_)
              · first
                | (exfalso; first | omega | contradiction)
                | (refine pz_G_of pz_b258_46 ?_
                   refine w_pure rfl ?_
                   refine w_goto ?_
                   refine pz_G_of pz_b258_51 ?_
                   refine w_loc (ls' := [some (.inr (.inl 154)), some (.inl p), some (.inl 1), some (.inl e)]) (st' := []) rfl ?_
                   refine w_iinc (ls' := [some (.inr (.inl 154)), some (.inl p), some (.inl 1), some (.inl (e + 1))]) rfl rfl rfl (by omega) ?_
                   refine w_goto ?_
                   exact ih24 _ (by omega) 1 (e + 1)  rfl (by omega) (by first | exact q_exi_t1 hz (by omega) (by omega) | exact q_exi_t2 (by omega) (by first | omega | (dsimp only; omega)) | exact q_exi_f hz (by omega) (by omega) (by first | omega | (dsimp only; omega))))
              · first
                | (exfalso; first | omega | contradiction)
                | (refine w_loc rfl ?_
                   refine w_loc rfl ?_
                   have hc8 : pz_R (pz_Sh L) 196 [.inr (.inl 154), .inl e] (pz_u1 (pz_u1 (pz_u1 (pz_u1 iv 154 (iv 154)) 157 (iv 157)) 158 (iv 158)) 159 (iv 159)) (.inl (some (.inl (pz_bi (q_sta (iv 155) e))))) (pz_u1 (pz_u1 (pz_u1 (pz_u1 iv 154 (iv 154)) 157 (iv 157)) 158 (iv 158)) 159 (iv 159)) := s_X11_hasStarted e (by show 0 ≤ e ∧ e ≤ 9; omega)
                   refine w_call hc8 rfl (pz_cokI is_154 rfl) ?_
                   refine w_beq (fun h9 => ?_) (fun h9 => ?_)
                   · first
                     | (exfalso; first | omega | contradiction)
                     | (refine pz_G_of pz_b258_50 ?_
                        refine w_pure rfl ?_
                        refine w_nil ?_
                        refine pz_G_of pz_b258_51 ?_
                        refine w_loc (ls' := [some (.inr (.inl 154)), some (.inl p), some (.inl 0), some (.inl e)]) (st' := []) rfl ?_
                        refine w_iinc (ls' := [some (.inr (.inl 154)), some (.inl p), some (.inl 0), some (.inl (e + 1))]) rfl rfl rfl (by omega) ?_
                        refine w_goto ?_
                        exact ih24 _ (by omega) 0 (e + 1)  rfl (by omega) (by first | exact q_exi_t1 hz (by omega) (by omega) | exact q_exi_t2 (by omega) (by first | omega | (dsimp only; omega)) | exact q_exi_f hz (by omega) (by omega) (by first | omega | (dsimp only; omega))))
                   · first
                     | (exfalso; first | omega | contradiction)
                     | (refine w_nil ?_
                        refine pz_G_of pz_b258_46 ?_
                        refine w_pure rfl ?_
                        refine w_goto ?_
                        refine pz_G_of pz_b258_51 ?_
                        refine w_loc (ls' := [some (.inr (.inl 154)), some (.inl p), some (.inl 1), some (.inl e)]) (st' := []) rfl ?_
                        refine w_iinc (ls' := [some (.inr (.inl 154)), some (.inl p), some (.inl 1), some (.inl (e + 1))]) rfl rfl rfl (by omega) ?_
                        refine w_goto ?_
                        exact ih24 _ (by omega) 1 (e + 1)  rfl (by omega) (by first | exact q_exi_t1 hz (by omega) (by omega) | exact q_exi_t2 (by omega) (by first | omega | (dsimp only; omega)) | exact q_exi_f hz (by omega) (by omega) (by first | omega | (dsimp only; omega))))))
       exact lp24 _ 0 1  rfl (by omega) (by exact pz_bi_f (fun ⟨i, g1, g2, g3⟩ => by omega)))
  · first
    | (exfalso; first | omega | contradiction)
    | (refine w_pure rfl ?_
       refine w_ret rfl ?_
       first | exact lf_i (by first | rfl | omega) (by rfl) | (exfalso; omega))

theorem s_X11_wrongPlay_2b {L : Nat} {iv : Nat → Nat → Int} (p : Int) (hk : q_KR (iv 155)) (hcase0 : 0 ≤ p ∧ p ≤ q_p2 (iv 155 2) - 1) (hcase1 : ¬ (q_exi (fun i => 1 ≤ i ∧ q_sta (iv 155) i) ((iv 155) 0))) (hcase2 : ¬ q_seen (iv 155) (iv 161) (iv 157) (iv 158) (iv 159)) : pz_R (pz_Sh L) 258 [.inr (.inl 154), .inl p] iv (.inl (some (.inl 2))) (pz_u1 (pz_u1 (pz_u1 (pz_u1 iv 154 (q_zw (iv 155) (iv 161) (iv 157) (iv 158) (iv 159) (iv 154))) 157 ((q_zX (iv 155) (iv 161) (iv 157) (iv 158) (iv 159)).2.2)) 158 ((q_zX (iv 155) (iv 161) (iv 157) (iv 158) (iv 159)).1)) 159 ((q_zX (iv 155) (iv 161) (iv 157) (iv 158) (iv 159)).2.1)) := by
  intro dv cc ss
  have hk0 := hk.r0
  have hsh := q_shl_p2 (a := iv 155 2) (by omega) (by omega)
  have hp2 := q_p2_r (a := iv 155 2) (by omega) (by omega)
  have hz7 := q_zw_7 (k := iv 155) (lf := iv 161) (g := iv 157) (v := iv 158) (a := iv 159) (w := iv 154)
  refine pz_G_mem (iv2 := pz_u1 (pz_u1 (pz_u1 (pz_u1 iv 154 (iv 154)) 157 (iv 157)) 158 (iv 158)) 159 (iv 159)) (by exact ((((pz_u1_self iv 154).symm).trans (pz_u1_self (pz_u1 iv 154 (iv 154)) 157).symm).trans (pz_u1_self (pz_u1 (pz_u1 iv 154 (iv 154)) 157 (iv 157)) 158).symm).trans (pz_u1_self (pz_u1 (pz_u1 (pz_u1 iv 154 (iv 154)) 157 (iv 157)) 158 (iv 158)) 159).symm) ?_
  show pz_G 258 0 [some (.inr (.inl 154)), some (.inl p), none, none] [] (pz_Sh L, pz_u1 (pz_u1 (pz_u1 (pz_u1 iv 154 (iv 154)) 157 (iv 157)) 158 (iv 158)) 159 (iv 159), dv, cc, ss) (pz_P (pz_Sh L) (.inl (some (.inl 2))) (pz_u1 (pz_u1 (pz_u1 (pz_u1 iv 154 (q_zw (iv 155) (iv 161) (iv 157) (iv 158) (iv 159) (iv 154))) 157 ((q_zX (iv 155) (iv 161) (iv 157) (iv 158) (iv 159)).2.2)) 158 ((q_zX (iv 155) (iv 161) (iv 157) (iv 158) (iv 159)).1)) 159 ((q_zX (iv 155) (iv 161) (iv 157) (iv 158) (iv 159)).2.1)) dv cc ss)
  refine pz_G_of pz_b258_0 ?_
  refine w_loc rfl ?_
  refine w_pure rfl ?_
  refine w_pure rfl ?_
  refine w_loc rfl ?_
  refine w_getR (q := 155) is_154 rf_154_1 ?_
  refine w_pure rfl ?_
  refine w_iald (v := (iv 155) 2) is_155 ln_155 ⟨by omega, by omega⟩ rfl ?_
  refine w_ishl ?_
  refine w_pure rfl ?_
  refine w_isub (by omega) ?_
  have hc1 : pz_R (pz_Sh L) 190 [.inl p, .inl 0, .inl ((pz_shl 1 ((iv 155) 2)) - 1)] (pz_u1 (pz_u1 (pz_u1 (pz_u1 iv 154 (iv 154)) 157 (iv 157)) 158 (iv 158)) 159 (iv 159)) (.inl (some (.inl (pz_bi (0 ≤ p ∧ p ≤ ((pz_shl 1 ((iv 155) 2)) - 1)))))) (pz_u1 (pz_u1 (pz_u1 (pz_u1 iv 154 (iv 154)) 157 (iv 157)) 158 (iv 158)) 159 (iv 159)) := s_X11_in p 0 ((pz_shl 1 ((iv 155) 2)) - 1)
  refine w_call hc1 rfl rfl ?_
  refine w_bne (fun h2 => ?_) (fun h2 => ?_)
  · first
    | (exfalso; first | omega | contradiction)
    | (refine pz_G_of pz_b258_20 ?_
       refine w_pure rfl ?_
       refine w_loc (ls' := [some (.inr (.inl 154)), some (.inl p), some (.inl 0), none]) (st' := []) rfl ?_
       refine w_pure rfl ?_
       refine w_loc (ls' := [some (.inr (.inl 154)), some (.inl p), some (.inl 0), some (.inl 1)]) (st' := []) rfl ?_
       refine w_nil ?_
       have lp24 : ∀ (dd : Nat) (z : Int) (e : Int) , (iv 155 0 - e).toNat = dd → ∀ (he : 1 ≤ e ∧ e ≤ iv 155 0), ∀ (hz : z = pz_bi (q_exi (fun i => 1 ≤ i ∧ q_sta (iv 155) i) e)),  pz_G 258 24 [some (.inr (.inl 154)), some (.inl p), some (.inl z), some (.inl e)] [] (pz_Sh L, pz_u1 (pz_u1 (pz_u1 (pz_u1 iv 154 (iv 154)) 157 (iv 157)) 158 (iv 158)) 159 (iv 159), dv, cc, ss) (pz_P (pz_Sh L) (.inl (some (.inl 2))) (pz_u1 (pz_u1 (pz_u1 (pz_u1 iv 154 (q_zw (iv 155) (iv 161) (iv 157) (iv 158) (iv 159) (iv 154))) 157 ((q_zX (iv 155) (iv 161) (iv 157) (iv 158) (iv 159)).2.2)) 158 ((q_zX (iv 155) (iv 161) (iv 157) (iv 158) (iv 159)).1)) 159 ((q_zX (iv 155) (iv 161) (iv 157) (iv 158) (iv 159)).2.1)) dv cc ss) := by
         intro dd24
         induction dd24 using Nat.strongRecOn with
         | _ dd24 ih24 =>
         intro z e  hd24 he hz
         refine pz_G_of pz_b258_24 ?_
         refine w_loc rfl ?_
         refine w_loc rfl ?_
         refine w_getR (q := 155) is_154 rf_154_1 ?_
         refine w_pure rfl ?_
         refine w_iald (v := (iv 155) 0) is_155 ln_155 ⟨by omega, by omega⟩ rfl ?_
         refine w_ige (fun h3 => ?_) (fun h3 => ?_)
         · first
           | (exfalso; first | omega | contradiction)
           | (have hz9 : z = pz_bi (q_exi (fun i => 1 ≤ i ∧ q_sta (iv 155) i) ((iv 155) 0)) := by
                rw [hz, show e = iv 155 0 by omega]
              rw [pz_bi_0 hcase1] at hz9
              rw [pz_bi_0 hcase2] at hz7
              refine pz_G_of pz_b258_58 ?_
              refine w_loc rfl ?_
              have hc4 : pz_R (pz_Sh L) 247 [.inr (.inl 154)] (pz_u1 (pz_u1 (pz_u1 (pz_u1 iv 154 (iv 154)) 157 (iv 157)) 158 (iv 158)) 159 (iv 159)) (.inl none) (pz_u1 (pz_u1 (pz_u1 (pz_u1 iv 154 (q_zw (iv 155) (iv 161) (iv 157) (iv 158) (iv 159) (iv 154))) 157 ((q_zX (iv 155) (iv 161) (iv 157) (iv 158) (iv 159)).2.2)) 158 ((q_zX (iv 155) (iv 161) (iv 157) (iv 158) (iv 159)).1)) 159 ((q_zX (iv 155) (iv 161) (iv 157) (iv 158) (iv 159)).2.1)) := pz_R_mem (s_X11_reduces (by show q_KR (iv 155); exact hk)) (by rw [pz_u1_in (r := 154) (q := 159) (by decide)]; rw [pz_u1_in (r := 154) (q := 158) (by decide)]; rw [pz_u1_in (r := 154) (q := 157) (by decide)]; rw [pz_u1_top (r := 154)]; rw [pz_u1_in (r := 157) (q := 159) (by decide)]; rw [pz_u1_in (r := 157) (q := 158) (by decide)]; rw [pz_u1_top (r := 157)]; rw [pz_u1_in (r := 158) (q := 159) (by decide)]; rw [pz_u1_top (r := 158)]; rw [pz_u1_top (r := 159)]; rfl)
              refine w_callv hc4 rfl (pz_cokI is_154 rfl) ?_
              refine w_loc rfl ?_
              refine w_zne (fun h5 => ?_) (fun h5 => ?_)
              · first
                | (exfalso; first | omega | contradiction)
                | (refine pz_G_of pz_b258_73 ?_
                   refine w_pure rfl ?_
                   refine w_goto ?_
                   refine pz_G_of pz_b258_78 ?_
                   refine w_ret rfl ?_
                   first | exact lf_i (by first | rfl | omega) (by rfl) | (exfalso; omega))
              · first
                | (exfalso; first | omega | contradiction)
                | (refine w_loc rfl ?_
                   refine w_getI (v := (q_zw (iv 155) (iv 161) (iv 157) (iv 158) (iv 159) (iv 154)) 7) is_154 (by decide) rfl ?_
                   refine w_zne (fun h6 => ?_) (fun h6 => ?_)
                   · first
                     | (exfalso; first | omega | contradiction)
                     | (refine pz_G_of pz_b258_77 ?_
                        refine w_pure rfl ?_
                        refine w_nil ?_
                        refine pz_G_of pz_b258_78 ?_
                        refine w_ret rfl ?_
                        first | exact lf_i (by first | rfl | omega) (by rfl) | (exfalso; omega))
                   · first
                     | (exfalso; first | omega | contradiction)
                     | (refine w_nil ?_
                        refine pz_G_of pz_b258_73 ?_
                        refine w_pure rfl ?_
                        refine w_goto ?_
                        refine pz_G_of pz_b258_78 ?_
                        refine w_ret rfl ?_
                        first | exact lf_i (by first | rfl | omega) (by rfl) | (exfalso; omega))))
         · first
           | (exfalso; first | omega | contradiction)
           | (refine w_loc rfl ?_
              refine w_zne (fun h7 => ?_) (fun h7 => ?_)
              · first
                | (exfalso; first | omega | contradiction)
                | (refine pz_G_of pz_b258_46 ?_
                   refine w_pure rfl ?_
                   refine w_goto ?_
                   refine pz_G_of pz_b258_51 ?_
                   refine w_loc (ls' := [some (.inr (.inl 154)), some (.inl p), some (.inl 1), some (.inl e)]) (st' := []) rfl ?_
                   refine w_iinc (ls' := [some (.inr (.inl 154)), some (.inl p), some (.inl 1), some (.inl (e + 1))]) rfl rfl rfl (by omega) ?_
                   refine w_goto ?_
                   exact ih24 _ (by omega) 1 (e + 1)  rfl (by omega) (by first | exact q_exi_t1 hz (by omega) (by omega) | exact q_exi_t2 (by omega) (by first | omega | (dsimp only; omega)) | exact q_exi_f hz (by omega) (by omega) (by first | omega | (dsimp only; omega))))
              · first
                | (exfalso; first | omega | contradiction)
                | (refine w_loc rfl ?_
                   refine w_loc rfl ?_
                   have hc8 : pz_R (pz_Sh L) 196 [.inr (.inl 154), .inl e] (pz_u1 (pz_u1 (pz_u1 (pz_u1 iv 154 (iv 154)) 157 (iv 157)) 158 (iv 158)) 159 (iv 159)) (.inl (some (.inl (pz_bi (q_sta (iv 155) e))))) (pz_u1 (pz_u1 (pz_u1 (pz_u1 iv 154 (iv 154)) 157 (iv 157)) 158 (iv 158)) 159 (iv 159)) := s_X11_hasStarted e (by show 0 ≤ e ∧ e ≤ 9; omega)
                   refine w_call hc8 rfl (pz_cokI is_154 rfl) ?_
                   refine w_beq (fun h9 => ?_) (fun h9 => ?_)
                   · first
                     | (exfalso; first | omega | contradiction)
                     | (refine pz_G_of pz_b258_50 ?_
                        refine w_pure rfl ?_
                        refine w_nil ?_
                        refine pz_G_of pz_b258_51 ?_
                        refine w_loc (ls' := [some (.inr (.inl 154)), some (.inl p), some (.inl 0), some (.inl e)]) (st' := []) rfl ?_
                        refine w_iinc (ls' := [some (.inr (.inl 154)), some (.inl p), some (.inl 0), some (.inl (e + 1))]) rfl rfl rfl (by omega) ?_
                        refine w_goto ?_
                        exact ih24 _ (by omega) 0 (e + 1)  rfl (by omega) (by first | exact q_exi_t1 hz (by omega) (by omega) | exact q_exi_t2 (by omega) (by first | omega | (dsimp only; omega)) | exact q_exi_f hz (by omega) (by omega) (by first | omega | (dsimp only; omega))))
                   · first
                     | (exfalso; first | omega | contradiction)
                     | (refine w_nil ?_
                        refine pz_G_of pz_b258_46 ?_
                        refine w_pure rfl ?_
                        refine w_goto ?_
                        refine pz_G_of pz_b258_51 ?_
                        refine w_loc (ls' := [some (.inr (.inl 154)), some (.inl p), some (.inl 1), some (.inl e)]) (st' := []) rfl ?_
                        refine w_iinc (ls' := [some (.inr (.inl 154)), some (.inl p), some (.inl 1), some (.inl (e + 1))]) rfl rfl rfl (by omega) ?_
                        refine w_goto ?_
                        exact ih24 _ (by omega) 1 (e + 1)  rfl (by omega) (by first | exact q_exi_t1 hz (by omega) (by omega) | exact q_exi_t2 (by omega) (by first | omega | (dsimp only; omega)) | exact q_exi_f hz (by omega) (by omega) (by first | omega | (dsimp only; omega))))))
       exact lp24 _ 0 1  rfl (by omega) (by exact pz_bi_f (fun ⟨i, g1, g2, g3⟩ => by omega)))
  · first
    | (exfalso; first | omega | contradiction)
    | (refine w_pure rfl ?_
       refine w_ret rfl ?_
       first | exact lf_i (by first | rfl | omega) (by rfl) | (exfalso; omega))

theorem s_X11_wrongPlay_0 {L : Nat} {iv : Nat → Nat → Int} (p : Int) (hk : q_KR (iv 155)) (hcase0 : 0 ≤ p ∧ p ≤ q_p2 (iv 155 2) - 1) (hcase1 : ¬ (q_exi (fun i => 1 ≤ i ∧ q_sta (iv 155) i) ((iv 155) 0))) (hcase2 : q_seen (iv 155) (iv 161) (iv 157) (iv 158) (iv 159)) : pz_R (pz_Sh L) 258 [.inr (.inl 154), .inl p] iv (.inl (some (.inl 0))) (pz_u1 (pz_u1 (pz_u1 (pz_u1 iv 154 (q_zw (iv 155) (iv 161) (iv 157) (iv 158) (iv 159) (iv 154))) 157 ((q_zX (iv 155) (iv 161) (iv 157) (iv 158) (iv 159)).2.2)) 158 ((q_zX (iv 155) (iv 161) (iv 157) (iv 158) (iv 159)).1)) 159 ((q_zX (iv 155) (iv 161) (iv 157) (iv 158) (iv 159)).2.1)) := by
  intro dv cc ss
  have hk0 := hk.r0
  have hsh := q_shl_p2 (a := iv 155 2) (by omega) (by omega)
  have hp2 := q_p2_r (a := iv 155 2) (by omega) (by omega)
  have hz7 := q_zw_7 (k := iv 155) (lf := iv 161) (g := iv 157) (v := iv 158) (a := iv 159) (w := iv 154)
  refine pz_G_mem (iv2 := pz_u1 (pz_u1 (pz_u1 (pz_u1 iv 154 (iv 154)) 157 (iv 157)) 158 (iv 158)) 159 (iv 159)) (by exact ((((pz_u1_self iv 154).symm).trans (pz_u1_self (pz_u1 iv 154 (iv 154)) 157).symm).trans (pz_u1_self (pz_u1 (pz_u1 iv 154 (iv 154)) 157 (iv 157)) 158).symm).trans (pz_u1_self (pz_u1 (pz_u1 (pz_u1 iv 154 (iv 154)) 157 (iv 157)) 158 (iv 158)) 159).symm) ?_
  show pz_G 258 0 [some (.inr (.inl 154)), some (.inl p), none, none] [] (pz_Sh L, pz_u1 (pz_u1 (pz_u1 (pz_u1 iv 154 (iv 154)) 157 (iv 157)) 158 (iv 158)) 159 (iv 159), dv, cc, ss) (pz_P (pz_Sh L) (.inl (some (.inl 0))) (pz_u1 (pz_u1 (pz_u1 (pz_u1 iv 154 (q_zw (iv 155) (iv 161) (iv 157) (iv 158) (iv 159) (iv 154))) 157 ((q_zX (iv 155) (iv 161) (iv 157) (iv 158) (iv 159)).2.2)) 158 ((q_zX (iv 155) (iv 161) (iv 157) (iv 158) (iv 159)).1)) 159 ((q_zX (iv 155) (iv 161) (iv 157) (iv 158) (iv 159)).2.1)) dv cc ss)
  refine pz_G_of pz_b258_0 ?_
  refine w_loc rfl ?_
  refine w_pure rfl ?_
  refine w_pure rfl ?_
  refine w_loc rfl ?_
  refine w_getR (q := 155) is_154 rf_154_1 ?_
  refine w_pure rfl ?_
  refine w_iald (v := (iv 155) 2) is_155 ln_155 ⟨by omega, by omega⟩ rfl ?_
  refine w_ishl ?_
  refine w_pure rfl ?_
  refine w_isub (by omega) ?_
  have hc1 : pz_R (pz_Sh L) 190 [.inl p, .inl 0, .inl ((pz_shl 1 ((iv 155) 2)) - 1)] (pz_u1 (pz_u1 (pz_u1 (pz_u1 iv 154 (iv 154)) 157 (iv 157)) 158 (iv 158)) 159 (iv 159)) (.inl (some (.inl (pz_bi (0 ≤ p ∧ p ≤ ((pz_shl 1 ((iv 155) 2)) - 1)))))) (pz_u1 (pz_u1 (pz_u1 (pz_u1 iv 154 (iv 154)) 157 (iv 157)) 158 (iv 158)) 159 (iv 159)) := s_X11_in p 0 ((pz_shl 1 ((iv 155) 2)) - 1)
  refine w_call hc1 rfl rfl ?_
  refine w_bne (fun h2 => ?_) (fun h2 => ?_)
  · first
    | (exfalso; first | omega | contradiction)
    | (refine pz_G_of pz_b258_20 ?_
       refine w_pure rfl ?_
       refine w_loc (ls' := [some (.inr (.inl 154)), some (.inl p), some (.inl 0), none]) (st' := []) rfl ?_
       refine w_pure rfl ?_
       refine w_loc (ls' := [some (.inr (.inl 154)), some (.inl p), some (.inl 0), some (.inl 1)]) (st' := []) rfl ?_
       refine w_nil ?_
       have lp24 : ∀ (dd : Nat) (z : Int) (e : Int) , (iv 155 0 - e).toNat = dd → ∀ (he : 1 ≤ e ∧ e ≤ iv 155 0), ∀ (hz : z = pz_bi (q_exi (fun i => 1 ≤ i ∧ q_sta (iv 155) i) e)),  pz_G 258 24 [some (.inr (.inl 154)), some (.inl p), some (.inl z), some (.inl e)] [] (pz_Sh L, pz_u1 (pz_u1 (pz_u1 (pz_u1 iv 154 (iv 154)) 157 (iv 157)) 158 (iv 158)) 159 (iv 159), dv, cc, ss) (pz_P (pz_Sh L) (.inl (some (.inl 0))) (pz_u1 (pz_u1 (pz_u1 (pz_u1 iv 154 (q_zw (iv 155) (iv 161) (iv 157) (iv 158) (iv 159) (iv 154))) 157 ((q_zX (iv 155) (iv 161) (iv 157) (iv 158) (iv 159)).2.2)) 158 ((q_zX (iv 155) (iv 161) (iv 157) (iv 158) (iv 159)).1)) 159 ((q_zX (iv 155) (iv 161) (iv 157) (iv 158) (iv 159)).2.1)) dv cc ss) := by
         intro dd24
         induction dd24 using Nat.strongRecOn with
         | _ dd24 ih24 =>
         intro z e  hd24 he hz
         refine pz_G_of pz_b258_24 ?_
         refine w_loc rfl ?_
         refine w_loc rfl ?_
         refine w_getR (q := 155) is_154 rf_154_1 ?_
         refine w_pure rfl ?_
         refine w_iald (v := (iv 155) 0) is_155 ln_155 ⟨by omega, by omega⟩ rfl ?_
         refine w_ige (fun h3 => ?_) (fun h3 => ?_)
         · first
           | (exfalso; first | omega | contradiction)
           | (have hz9 : z = pz_bi (q_exi (fun i => 1 ≤ i ∧ q_sta (iv 155) i) ((iv 155) 0)) := by
                rw [hz, show e = iv 155 0 by omega]
              rw [pz_bi_0 hcase1] at hz9
              rw [pz_bi_1 hcase2] at hz7
              refine pz_G_of pz_b258_58 ?_
              refine w_loc rfl ?_
              have hc4 : pz_R (pz_Sh L) 247 [.inr (.inl 154)] (pz_u1 (pz_u1 (pz_u1 (pz_u1 iv 154 (iv 154)) 157 (iv 157)) 158 (iv 158)) 159 (iv 159)) (.inl none) (pz_u1 (pz_u1 (pz_u1 (pz_u1 iv 154 (q_zw (iv 155) (iv 161) (iv 157) (iv 158) (iv 159) (iv 154))) 157 ((q_zX (iv 155) (iv 161) (iv 157) (iv 158) (iv 159)).2.2)) 158 ((q_zX (iv 155) (iv 161) (iv 157) (iv 158) (iv 159)).1)) 159 ((q_zX (iv 155) (iv 161) (iv 157) (iv 158) (iv 159)).2.1)) := pz_R_mem (s_X11_reduces (by show q_KR (iv 155); exact hk)) (by rw [pz_u1_in (r := 154) (q := 159) (by decide)]; rw [pz_u1_in (r := 154) (q := 158) (by decide)]; rw [pz_u1_in (r := 154) (q := 157) (by decide)]; rw [pz_u1_top (r := 154)]; rw [pz_u1_in (r := 157) (q := 159) (by decide)]; rw [pz_u1_in (r := 157) (q := 158) (by decide)]; rw [pz_u1_top (r := 157)]; rw [pz_u1_in (r := 158) (q := 159) (by decide)]; rw [pz_u1_top (r := 158)]; rw [pz_u1_top (r := 159)]; rfl)
              refine w_callv hc4 rfl (pz_cokI is_154 rfl) ?_
              refine w_loc rfl ?_
              refine w_zne (fun h5 => ?_) (fun h5 => ?_)
              · first
                | (exfalso; first | omega | contradiction)
                | (refine pz_G_of pz_b258_73 ?_
                   refine w_pure rfl ?_
                   refine w_goto ?_
                   refine pz_G_of pz_b258_78 ?_
                   refine w_ret rfl ?_
                   first | exact lf_i (by first | rfl | omega) (by rfl) | (exfalso; omega))
              · first
                | (exfalso; first | omega | contradiction)
                | (refine w_loc rfl ?_
                   refine w_getI (v := (q_zw (iv 155) (iv 161) (iv 157) (iv 158) (iv 159) (iv 154)) 7) is_154 (by decide) rfl ?_
                   refine w_zne (fun h6 => ?_) (fun h6 => ?_)
                   · first
                     | (exfalso; first | omega | contradiction)
                     | (refine pz_G_of pz_b258_77 ?_
                        refine w_pure rfl ?_
                        refine w_nil ?_
                        refine pz_G_of pz_b258_78 ?_
                        refine w_ret rfl ?_
                        first | exact lf_i (by first | rfl | omega) (by rfl) | (exfalso; omega))
                   · first
                     | (exfalso; first | omega | contradiction)
                     | (refine w_nil ?_
                        refine pz_G_of pz_b258_73 ?_
                        refine w_pure rfl ?_
                        refine w_goto ?_
                        refine pz_G_of pz_b258_78 ?_
                        refine w_ret rfl ?_
                        first | exact lf_i (by first | rfl | omega) (by rfl) | (exfalso; omega))))
         · first
           | (exfalso; first | omega | contradiction)
           | (refine w_loc rfl ?_
              refine w_zne (fun h7 => ?_) (fun h7 => ?_)
              · first
                | (exfalso; first | omega | contradiction)
                | (refine pz_G_of pz_b258_46 ?_
                   refine w_pure rfl ?_
                   refine w_goto ?_
                   refine pz_G_of pz_b258_51 ?_
                   refine w_loc (ls' := [some (.inr (.inl 154)), some (.inl p), some (.inl 1), some (.inl e)]) (st' := []) rfl ?_
                   refine w_iinc (ls' := [some (.inr (.inl 154)), some (.inl p), some (.inl 1), some (.inl (e + 1))]) rfl rfl rfl (by omega) ?_
                   refine w_goto ?_
                   exact ih24 _ (by omega) 1 (e + 1)  rfl (by omega) (by first | exact q_exi_t1 hz (by omega) (by omega) | exact q_exi_t2 (by omega) (by first | omega | (dsimp only; omega)) | exact q_exi_f hz (by omega) (by omega) (by first | omega | (dsimp only; omega))))
              · first
                | (exfalso; first | omega | contradiction)
                | (refine w_loc rfl ?_
                   refine w_loc rfl ?_
                   have hc8 : pz_R (pz_Sh L) 196 [.inr (.inl 154), .inl e] (pz_u1 (pz_u1 (pz_u1 (pz_u1 iv 154 (iv 154)) 157 (iv 157)) 158 (iv 158)) 159 (iv 159)) (.inl (some (.inl (pz_bi (q_sta (iv 155) e))))) (pz_u1 (pz_u1 (pz_u1 (pz_u1 iv 154 (iv 154)) 157 (iv 157)) 158 (iv 158)) 159 (iv 159)) := s_X11_hasStarted e (by show 0 ≤ e ∧ e ≤ 9; omega)
                   refine w_call hc8 rfl (pz_cokI is_154 rfl) ?_
                   refine w_beq (fun h9 => ?_) (fun h9 => ?_)
                   · first
                     | (exfalso; first | omega | contradiction)
                     | (refine pz_G_of pz_b258_50 ?_
                        refine w_pure rfl ?_
                        refine w_nil ?_
                        refine pz_G_of pz_b258_51 ?_
                        refine w_loc (ls' := [some (.inr (.inl 154)), some (.inl p), some (.inl 0), some (.inl e)]) (st' := []) rfl ?_
                        refine w_iinc (ls' := [some (.inr (.inl 154)), some (.inl p), some (.inl 0), some (.inl (e + 1))]) rfl rfl rfl (by omega) ?_
                        refine w_goto ?_
                        exact ih24 _ (by omega) 0 (e + 1)  rfl (by omega) (by first | exact q_exi_t1 hz (by omega) (by omega) | exact q_exi_t2 (by omega) (by first | omega | (dsimp only; omega)) | exact q_exi_f hz (by omega) (by omega) (by first | omega | (dsimp only; omega))))
                   · first
                     | (exfalso; first | omega | contradiction)
                     | (refine w_nil ?_
                        refine pz_G_of pz_b258_46 ?_
                        refine w_pure rfl ?_
                        refine w_goto ?_
                        refine pz_G_of pz_b258_51 ?_
                        refine w_loc (ls' := [some (.inr (.inl 154)), some (.inl p), some (.inl 1), some (.inl e)]) (st' := []) rfl ?_
                        refine w_iinc (ls' := [some (.inr (.inl 154)), some (.inl p), some (.inl 1), some (.inl (e + 1))]) rfl rfl rfl (by omega) ?_
                        refine w_goto ?_
                        exact ih24 _ (by omega) 1 (e + 1)  rfl (by omega) (by first | exact q_exi_t1 hz (by omega) (by omega) | exact q_exi_t2 (by omega) (by first | omega | (dsimp only; omega)) | exact q_exi_f hz (by omega) (by omega) (by first | omega | (dsimp only; omega))))))
       exact lp24 _ 0 1  rfl (by omega) (by exact pz_bi_f (fun ⟨i, g1, g2, g3⟩ => by omega)))
  · first
    | (exfalso; first | omega | contradiction)
    | (refine w_pure rfl ?_
       refine w_ret rfl ?_
       first | exact lf_i (by first | rfl | omega) (by rfl) | (exfalso; omega))
