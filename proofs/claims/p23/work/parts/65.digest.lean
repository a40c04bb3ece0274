/-! the digest: a number out of a state -/
def dA (σ : SG) : Nat → Int64
  | 0 => 3
  | k + 1 => 31 * dA σ k + (cvS σ k).toInt64
def dB (σ : SG) (t : Nat) : Nat → Int64 → Int64
  | 0, d => d
  | p + 1, d => 31 * (31 * dB σ t p d + (nI (kT (sT σ) t p)).toInt64) + (nI (nT (sT σ) t p)).toInt64
def dB2 (σ : SG) : Nat → Int64 → Int64
  | 0, d => d
  | t + 1, d => dB σ t (zT (sT σ) t) (dB2 σ t d)
def dC (σ : SG) (k : Nat) : Nat → Int64 → Int64
  | 0, d => d
  | q + 1, d => 31 * dC σ k q d + (oft σ k q).toInt64
def dC2 (σ : SG) : Nat → Int64 → Int64
  | 0, d => d
  | k + 1, d => dC σ k 10 (dC2 σ k d)
def dD (σ : SG) (k : Nat) : Nat → Int64 → Int64
  | 0, d => d
  | q + 1, d => 31 * dD σ k q d + ((sJ σ).2 k q).toInt64
def dD2 (σ : SG) : Nat → Int64 → Int64
  | 0, d => d
  | k + 1, d => dD σ k 6 (dD2 σ k d)
def dE (σ : SG) : Int64 := dB2 σ 4 (dA σ 10)
def dF (σ : SG) : Int64 := dC2 σ (sR σ).1 (dE σ)
def dgS (σ : SG) : Int64 := dD2 σ (sJ σ).1 (dF σ)
set_option maxHeartbeats 4000000 in
set_option maxRecDepth 100000 in
theorem c_L_digest (l : Launch) (G : GG) (h : Nat) (w : va_W) (X : SX) (hRX : RX G h w X) : MT l G yL_digest cL_digest 5 (some .long) 7 0 0 [.ref h] ((w)) (fun v9 ws9 => ∃ (w2 : va_W), v9 = some (.long (dgS (xS X))) ∧ ws9 = ((w2)) ∧ RX G h w2 X) := by
  refine MT.of RL [(0, .ref h)] (by decide +kernel) rfl rfl (Nat.le_of_ble_eq_true rfl) (fun κ C E hl9 hG9 hnm9 => ?_)
  subst hl9; subst hG9
  have hO := RX_wf hRX
  have hn12 := hO.1.2.2.2.1.1
  have hj100 := hO.1.2.2.2.2
  refine w_ldc2 (nx := 3) C 3 dL_digest_0 rfl wk_L_8 ?_
  refine w_lstore_n (nx := 4) (lo2 := [(1, .long 3), (0, .ref h)]) C dL_digest_3 rfl rfl (by decide) rfl ?_
  refine w_iconst (nx := 5) C (nI 0) dL_digest_4 rfl (by decide) ?_
  refine w_istore_n (nx := 6) (lo2 := [(3, .int (nI 0)), (1, .long 3), (0, .ref h)]) C dL_digest_5 rfl rfl (by decide) rfl ?_
  have LP_1 : ∀ (N9_6 : Nat) (k : Nat) (w1 : va_W) (d : Int64), (k ≤ 10) → (RX (kG κ) h w1 X) → (d = dA (xS X) k) → (10 - k) < N9_6 → WW κ 0 0 ((w1)) 6 [(0, .ref h), (1, .long d), (3, .int (nI k))] [] := by
    intro N9_6
    induction N9_6 with
    | zero => intro k w1 d hk hR1 hd hm9_6; exact absurd hm9_6 (Nat.not_lt_zero _)
    | succ N9_6 ih9_6 =>
      intro k w1 d hk hR1 hd hm9_6
      refine w_iload_n (nx := 7) C 2 dL_digest_6 rfl rfl rfl ?_
      refine w_bipush (nx := 9) C (nI 10) dL_digest_7 rfl (by decide) ?_
      refine n_icmp_ge (tg := 31) (nx := 12) C dL_digest_9 rfl rfl (by omega) (by omega) (fun h_2 => ?_) (fun h_2 => ?_)
      · refine w_iconst (nx := 32) C (nI 0) dL_digest_31 rfl (by decide) ?_
        refine w_istore_n (nx := 33) (lo2 := [(3, .int (nI 0)), (0, .ref h), (1, .long d)]) C dL_digest_32 rfl rfl (by decide) rfl ?_
        have LP_3 : ∀ (N9_33 : Nat) (t : Nat) (w1 : va_W) (d2 : Int64), (t ≤ 4) → (RX (kG κ) h w1 X) → (d2 = dB2 (xS X) t (dA (xS X) 10)) → (4 - t) < N9_33 → WW κ 0 0 ((w1)) 33 [(0, .ref h), (1, .long d2), (3, .int (nI t))] [] := by
          intro N9_33
          induction N9_33 with
          | zero => intro t w1 d2 ht hR1 hd2 hm9_33; exact absurd hm9_33 (Nat.not_lt_zero _)
          | succ N9_33 ih9_33 =>
            intro t w1 d2 ht hR1 hd2 hm9_33
            refine w_iload_n (nx := 34) C 2 dL_digest_33 rfl rfl rfl ?_
            refine w_iconst (nx := 35) C (nI 4) dL_digest_34 rfl (by decide) ?_
            refine n_icmp_ge (tg := 93) (nx := 38) C dL_digest_35 rfl rfl (by omega) (by omega) (fun h_4 => ?_) (fun h_4 => ?_)
            · refine w_iconst (nx := 94) C (nI 0) dL_digest_93 rfl (by decide) ?_
              refine w_istore_n (nx := 95) (lo2 := [(3, .int (nI 0)), (0, .ref h), (1, .long d2)]) C dL_digest_94 rfl rfl (by decide) rfl ?_
              have LP_5 : ∀ (N9_95 : Nat) (k4 : Nat) (w1 : va_W) (d4 : Int64), (k4 ≤ (sR (xS X)).1) → (RX (kG κ) h w1 X) → (d4 = dC2 (xS X) k4 (dE (xS X))) → ((sR (xS X)).1 - k4) < N9_95 → WW κ 0 0 ((w1)) 95 [(0, .ref h), (1, .long d4), (3, .int (nI k4))] [] := by
                intro N9_95
                induction N9_95 with
                | zero => intro k4 w1 d4 hk4 hR1 hd4 hm9_95; exact absurd hm9_95 (Nat.not_lt_zero _)
                | succ N9_95 ih9_95 =>
                  intro k4 w1 d4 hk4 hR1 hd4 hm9_95
                  refine w_iload_n (nx := 96) C 2 dL_digest_95 rfl rfl rfl ?_
                  refine w_aload_n (nx := 97) C 0 dL_digest_96 rfl rfl rfl ?_
                  refine w_iconst (nx := 98) C (nI 4) dL_digest_97 rfl (by decide) ?_
                  obtain ⟨_, hv_7⟩ := RX_recv (G := kG κ) (h := h) (w := w1) (X := X) (by assumption)
                  refine w_callV (nx := 101) (wr := []) (rest := [.int (nI k4)]) (ci := 8) C mi_X8_count (k_cnt4 _ _ h w1 X (by first | assumption | omega)) 0 dL_digest_98 rfl wl_L_12 rfl rfl hv_7 (pm_blkc [w1] [0] [] 1 (by decide +kernel) rfl rfl rfl rfl) rfl rfl (Nat.le_of_ble_eq_true rfl) (Nat.le_of_ble_eq_true rfl) (Nat.le_of_ble_eq_true rfl) (Nat.zero_le _) (Nat.zero_le _) (fun v9 w2_8 R_6 => ?_)
                  obtain ⟨w9, rfl, rfl, hR2_9⟩ := R_6
                  refine ww_perm (pm_blkj [w2_8] [] [0] 1 (by decide +kernel) rfl rfl rfl rfl) ?_
                  show WW κ 0 0 ((w2_8)) 101 [(0, .ref h), (1, .long d4), (3, .int (nI k4))] [.int (nI ((sR (xS X)).1)), .int (nI k4)]
                  refine n_icmp_ge (tg := 141) (nx := 104) C dL_digest_101 rfl rfl (by omega) (by omega) (fun h_10 => ?_) (fun h_10 => ?_)
                  · refine w_iconst (nx := 142) C (nI 0) dL_digest_141 rfl (by decide) ?_
                    refine w_istore_n (nx := 143) (lo2 := [(3, .int (nI 0)), (0, .ref h), (1, .long d4)]) C dL_digest_142 rfl rfl (by decide) rfl ?_
                    have LP_11 : ∀ (N9_143 : Nat) (k6 : Nat) (w1 : va_W) (d6 : Int64), (k6 ≤ (sJ (xS X)).1) → (RX (kG κ) h w1 X) → (d6 = dD2 (xS X) k6 (dF (xS X))) → ((sJ (xS X)).1 - k6) < N9_143 → WW κ 0 0 ((w1)) 143 [(0, .ref h), (1, .long d6), (3, .int (nI k6))] [] := by
                      intro N9_143
                      induction N9_143 with
                      | zero => intro k6 w1 d6 hk6 hR1 hd6 hm9_143; exact absurd hm9_143 (Nat.not_lt_zero _)
                      | succ N9_143 ih9_143 =>
                        intro k6 w1 d6 hk6 hR1 hd6 hm9_143
                        refine w_iload_n (nx := 144) C 2 dL_digest_143 rfl rfl rfl ?_
                        refine w_aload_n (nx := 145) C 0 dL_digest_144 rfl rfl rfl ?_
                        refine w_iconst (nx := 146) C (nI 5) dL_digest_145 rfl (by decide) ?_
                        obtain ⟨_, hv_13⟩ := RX_recv (G := kG κ) (h := h) (w := w1) (X := X) (by assumption)
                        refine w_callV (nx := 149) (wr := []) (rest := [.int (nI k6)]) (ci := 8) C mi_X8_count (k_cnt5 _ _ h w1 X (by first | assumption | omega)) 0 dL_digest_146 rfl wl_L_12 rfl rfl hv_13 (pm_blkc [w1] [0] [] 1 (by decide +kernel) rfl rfl rfl rfl) rfl rfl (Nat.le_of_ble_eq_true rfl) (Nat.le_of_ble_eq_true rfl) (Nat.le_of_ble_eq_true rfl) (Nat.zero_le _) (Nat.zero_le _) (fun v9 w2_14 R_12 => ?_)
                        obtain ⟨w9, rfl, rfl, hR2_15⟩ := R_12
                        refine ww_perm (pm_blkj [w2_14] [] [0] 1 (by decide +kernel) rfl rfl rfl rfl) ?_
                        show WW κ 0 0 ((w2_14)) 149 [(0, .ref h), (1, .long d6), (3, .int (nI k6))] [.int (nI ((sJ (xS X)).1)), .int (nI k6)]
                        refine n_icmp_ge (tg := 189) (nx := 152) C dL_digest_149 rfl rfl (by omega) (by omega) (fun h_16 => ?_) (fun h_16 => ?_)
                        · refine w_lload_n (nx := 190) C 1 dL_digest_189 rfl rfl rfl ?_
                          exact w_lret C E dL_digest_190 rfl (Nat.le_refl _) (Nat.le_refl _) ⟨_, (congrArg (fun z => some (Value.long z)) (hd6.trans (show _ = dD2 (xS X) (sJ (xS X)).1 (dF (xS X)) by rw [show k6 = (sJ (xS X)).1 by omega]))), rfl, (by first | assumption | rfl | omega)⟩
                        · refine w_iconst (nx := 153) C (nI 0) dL_digest_152 rfl (by decide) ?_
                          refine w_istore (nx := 155) (lo2 := [(4, .int (nI 0)), (0, .ref h), (1, .long d6), (3, .int (nI k6))]) C dL_digest_153 rfl (by decide) rfl ?_
                          have LP_17 : ∀ (N9_155 : Nat) (q7 : Nat) (w3 : va_W) (d7 : Int64), (q7 ≤ 6) → (RX (kG κ) h w3 X) → (d7 = dD (xS X) k6 q7 d6) → (6 - q7) < N9_155 → WW κ 0 0 ((w3)) 155 [(0, .ref h), (1, .long d7), (3, .int (nI k6)), (4, .int (nI q7))] [] := by
                            intro N9_155
                            induction N9_155 with
                            | zero => intro q7 w3 d7 hq7 hR3 hd7 hm9_155; exact absurd hm9_155 (Nat.not_lt_zero _)
                            | succ N9_155 ih9_155 =>
                              intro q7 w3 d7 hq7 hR3 hd7 hm9_155
                              refine w_iload (nx := 157) C 3 dL_digest_155 rfl rfl ?_
                              refine w_bipush (nx := 159) C (nI 6) dL_digest_157 rfl (by decide) ?_
                              refine n_icmp_ge (tg := 183) (nx := 162) C dL_digest_159 rfl rfl (by omega) (by omega) (fun h_18 => ?_) (fun h_18 => ?_)
                              · refine w_iinc (nx := 186) (lo2 := [(3, .int (nI (k6 + 1))), (0, .ref h), (1, .long d7), (4, .int (nI q7))]) C (nI (k6 + 1)) 2 dL_digest_183 rfl rfl (nI_add _ _) (by decide) rfl ?_
                                refine w_goto (nx := 143) C dL_digest_186 rfl ?_
                                refine ww_lo [1, 2, 0] (lo' := [(0, .ref h), (1, .long d7), (3, .int (nI (k6 + 1)))]) rfl ?_
                                exact ih9_143 (k6 + 1) w3 d7 (by first | assumption | omega) (by first | assumption | omega) (hd7.trans (show dD (xS X) k6 q7 d6 = dD (xS X) k6 6 (dD2 (xS X) k6 (dF (xS X))) by rw [show q7 = 6 by omega, hd6])) (by omega)
                              · refine w_ldc2 (nx := 165) C 31 dL_digest_162 rfl wk_L_10 ?_
                                refine w_lload_n (nx := 166) C 1 dL_digest_165 rfl rfl rfl ?_
                                refine w_lmul (nx := 167) C (31 * d7) dL_digest_166 rfl rfl ?_
                                refine w_aload_n (nx := 168) C 0 dL_digest_167 rfl rfl rfl ?_
                                refine w_iload_n (nx := 169) C 2 dL_digest_168 rfl rfl rfl ?_
                                refine w_iload (nx := 171) C 3 dL_digest_169 rfl rfl ?_
                                obtain ⟨_, hv_20⟩ := RX_recv (G := kG κ) (h := h) (w := w3) (X := X) (by assumption)
                                refine w_callV (nx := 174) (wr := []) (rest := [.long (31 * d7)]) (ci := 8) C mi_X8_journal (k_jou _ _ h w3 X k6 q7 (by first | assumption | omega) (by first | assumption | omega) (by first | assumption | omega) (by first | assumption | omega)) 0 dL_digest_171 rfl wl_L_26 rfl rfl hv_20 (pm_blkc [w3] [0] [] 1 (by decide +kernel) rfl rfl rfl rfl) rfl rfl (Nat.le_of_ble_eq_true rfl) (Nat.le_of_ble_eq_true rfl) (Nat.le_of_ble_eq_true rfl) (Nat.zero_le _) (Nat.zero_le _) (fun v9 w2_21 R_19 => ?_)
                                obtain ⟨w9, rfl, rfl, hR2_22⟩ := R_19
                                refine ww_perm (pm_blkj [w2_21] [] [0] 1 (by decide +kernel) rfl rfl rfl rfl) ?_
                                show WW κ 0 0 ((w2_21)) 174 [(0, .ref h), (1, .long d7), (3, .int (nI k6)), (4, .int (nI q7))] [.int ((sJ (xS X)).2 k6 q7), .long (31 * d7)]
                                refine w_i2l (nx := 175) C (((sJ (xS X)).2 k6 q7).toInt64) dL_digest_174 rfl rfl ?_
                                refine w_ladd (nx := 176) C ((31 * d7) + (((sJ (xS X)).2 k6 q7).toInt64)) dL_digest_175 rfl rfl ?_
                                refine w_lstore_n (nx := 177) (lo2 := [(1, .long ((31 * d7) + (((sJ (xS X)).2 k6 q7).toInt64))), (0, .ref h), (3, .int (nI k6)), (4, .int (nI q7))]) C dL_digest_176 rfl rfl (by decide) rfl ?_
                                refine w_iinc (nx := 180) (lo2 := [(4, .int (nI (q7 + 1))), (1, .long ((31 * d7) + (((sJ (xS X)).2 k6 q7).toInt64))), (0, .ref h), (3, .int (nI k6))]) C (nI (q7 + 1)) 3 dL_digest_177 rfl rfl (nI_add _ _) (by decide) rfl ?_
                                refine w_goto (nx := 155) C dL_digest_180 rfl ?_
                                refine ww_lo [2, 1, 3, 0] (lo' := [(0, .ref h), (1, .long ((31 * d7) + (((sJ (xS X)).2 k6 q7).toInt64))), (3, .int (nI k6)), (4, .int (nI (q7 + 1)))]) rfl ?_
                                exact ih9_155 (q7 + 1) w2_21 ((31 * d7) + (((sJ (xS X)).2 k6 q7).toInt64)) (by first | assumption | omega) (by first | assumption | omega) (by rw [hd7]; rfl) (by omega)
                          refine ww_lo [1, 2, 3, 0] (lo' := [(0, .ref h), (1, .long d6), (3, .int (nI k6)), (4, .int (nI 0))]) rfl ?_
                          exact LP_17 _ 0 w2_14 d6 (by first | assumption | omega) (by first | assumption | omega) (rfl) (Nat.lt_succ_self _)
                    refine ww_lo [1, 2, 0] (lo' := [(0, .ref h), (1, .long d4), (3, .int (nI 0))]) rfl ?_
                    exact LP_11 _ 0 w2_8 d4 (by first | assumption | omega) (by first | assumption | omega) (hd4.trans (show _ = dC2 (xS X) (sR (xS X)).1 (dE (xS X)) by rw [show k4 = (sR (xS X)).1 by omega])) (Nat.lt_succ_self _)
                  · refine w_iconst (nx := 105) C (nI 0) dL_digest_104 rfl (by decide) ?_
                    refine w_istore (nx := 107) (lo2 := [(4, .int (nI 0)), (0, .ref h), (1, .long d4), (3, .int (nI k4))]) C dL_digest_105 rfl (by decide) rfl ?_
                    have LP_23 : ∀ (N9_107 : Nat) (q : Nat) (w3 : va_W) (d5 : Int64), (q ≤ 10) → (RX (kG κ) h w3 X) → (d5 = dC (xS X) k4 q d4) → (10 - q) < N9_107 → WW κ 0 0 ((w3)) 107 [(0, .ref h), (1, .long d5), (3, .int (nI k4)), (4, .int (nI q))] [] := by
                      intro N9_107
                      induction N9_107 with
                      | zero => intro q w3 d5 hq hR3 hd5 hm9_107; exact absurd hm9_107 (Nat.not_lt_zero _)
                      | succ N9_107 ih9_107 =>
                        intro q w3 d5 hq hR3 hd5 hm9_107
                        refine w_iload (nx := 109) C 3 dL_digest_107 rfl rfl ?_
                        refine w_bipush (nx := 111) C (nI 10) dL_digest_109 rfl (by decide) ?_
                        refine n_icmp_ge (tg := 135) (nx := 114) C dL_digest_111 rfl rfl (by omega) (by omega) (fun h_24 => ?_) (fun h_24 => ?_)
                        · refine w_iinc (nx := 138) (lo2 := [(3, .int (nI (k4 + 1))), (0, .ref h), (1, .long d5), (4, .int (nI q))]) C (nI (k4 + 1)) 2 dL_digest_135 rfl rfl (nI_add _ _) (by decide) rfl ?_
                          refine w_goto (nx := 95) C dL_digest_138 rfl ?_
                          refine ww_lo [1, 2, 0] (lo' := [(0, .ref h), (1, .long d5), (3, .int (nI (k4 + 1)))]) rfl ?_
                          exact ih9_95 (k4 + 1) w3 d5 (by first | assumption | omega) (by first | assumption | omega) (hd5.trans (show dC (xS X) k4 q d4 = dC (xS X) k4 10 (dC2 (xS X) k4 (dE (xS X))) by rw [show q = 10 by omega, hd4])) (by omega)
                        · refine w_ldc2 (nx := 117) C 31 dL_digest_114 rfl wk_L_10 ?_
                          refine w_lload_n (nx := 118) C 1 dL_digest_117 rfl rfl rfl ?_
                          refine w_lmul (nx := 119) C (31 * d5) dL_digest_118 rfl rfl ?_
                          refine w_aload_n (nx := 120) C 0 dL_digest_119 rfl rfl rfl ?_
                          refine w_iload_n (nx := 121) C 2 dL_digest_120 rfl rfl rfl ?_
                          refine w_iload (nx := 123) C 3 dL_digest_121 rfl rfl ?_
                          obtain ⟨_, hv_26⟩ := RX_recv (G := kG κ) (h := h) (w := w3) (X := X) (by assumption)
                          refine w_callV (nx := 126) (wr := []) (rest := [.long (31 * d5)]) (ci := 8) C mi_X8_ofTrigger (k_ofT _ _ h w3 X k4 q (by first | assumption | omega) (by first | assumption | omega) (by first | assumption | omega) (by first | assumption | omega)) 0 dL_digest_123 rfl wl_L_22 rfl rfl hv_26 (pm_blkc [w3] [0] [] 1 (by decide +kernel) rfl rfl rfl rfl) rfl rfl (Nat.le_of_ble_eq_true rfl) (Nat.le_of_ble_eq_true rfl) (Nat.le_of_ble_eq_true rfl) (Nat.zero_le _) (Nat.zero_le _) (fun v9 w2_27 R_25 => ?_)
                          obtain ⟨w9, rfl, rfl, hR2_28⟩ := R_25
                          refine ww_perm (pm_blkj [w2_27] [] [0] 1 (by decide +kernel) rfl rfl rfl rfl) ?_
                          show WW κ 0 0 ((w2_27)) 126 [(0, .ref h), (1, .long d5), (3, .int (nI k4)), (4, .int (nI q))] [.int (oft (xS X) k4 q), .long (31 * d5)]
                          refine w_i2l (nx := 127) C ((oft (xS X) k4 q).toInt64) dL_digest_126 rfl rfl ?_
                          refine w_ladd (nx := 128) C ((31 * d5) + ((oft (xS X) k4 q).toInt64)) dL_digest_127 rfl rfl ?_
                          refine w_lstore_n (nx := 129) (lo2 := [(1, .long ((31 * d5) + ((oft (xS X) k4 q).toInt64))), (0, .ref h), (3, .int (nI k4)), (4, .int (nI q))]) C dL_digest_128 rfl rfl (by decide) rfl ?_
                          refine w_iinc (nx := 132) (lo2 := [(4, .int (nI (q + 1))), (1, .long ((31 * d5) + ((oft (xS X) k4 q).toInt64))), (0, .ref h), (3, .int (nI k4))]) C (nI (q + 1)) 3 dL_digest_129 rfl rfl (nI_add _ _) (by decide) rfl ?_
                          refine w_goto (nx := 107) C dL_digest_132 rfl ?_
                          refine ww_lo [2, 1, 3, 0] (lo' := [(0, .ref h), (1, .long ((31 * d5) + ((oft (xS X) k4 q).toInt64))), (3, .int (nI k4)), (4, .int (nI (q + 1)))]) rfl ?_
                          exact ih9_107 (q + 1) w2_27 ((31 * d5) + ((oft (xS X) k4 q).toInt64)) (by first | assumption | omega) (by first | assumption | omega) (by rw [hd5]; rfl) (by omega)
                    refine ww_lo [1, 2, 3, 0] (lo' := [(0, .ref h), (1, .long d4), (3, .int (nI k4)), (4, .int (nI 0))]) rfl ?_
                    exact LP_23 _ 0 w2_8 d4 (by first | assumption | omega) (by first | assumption | omega) (rfl) (Nat.lt_succ_self _)
              refine ww_lo [1, 2, 0] (lo' := [(0, .ref h), (1, .long d2), (3, .int (nI 0))]) rfl ?_
              exact LP_5 _ 0 w1 d2 (by first | assumption | omega) (by first | assumption | omega) (hd2.trans (show _ = dB2 (xS X) 4 (dA (xS X) 10) by rw [show t = 4 by omega])) (Nat.lt_succ_self _)
            · have hzt := (hO.1.2.2.1 t (by omega)).1
              refine w_iconst (nx := 39) C (nI 0) dL_digest_38 rfl (by decide) ?_
              refine w_istore (nx := 41) (lo2 := [(4, .int (nI 0)), (0, .ref h), (1, .long d2), (3, .int (nI t))]) C dL_digest_39 rfl (by decide) rfl ?_
              have LP_29 : ∀ (N9_41 : Nat) (p : Nat) (w3 : va_W) (d3 : Int64), (p ≤ zT (sT (xS X)) t) → (RX (kG κ) h w3 X) → (d3 = dB (xS X) t p d2) → (zT (sT (xS X)) t - p) < N9_41 → WW κ 0 0 ((w3)) 41 [(0, .ref h), (1, .long d3), (3, .int (nI t)), (4, .int (nI p))] [] := by
                intro N9_41
                induction N9_41 with
                | zero => intro p w3 d3 hp hR3 hd3 hm9_41; exact absurd hm9_41 (Nat.not_lt_zero _)
                | succ N9_41 ih9_41 =>
                  intro p w3 d3 hp hR3 hd3 hm9_41
                  refine w_iload (nx := 43) C 3 dL_digest_41 rfl rfl ?_
                  refine w_aload_n (nx := 44) C 0 dL_digest_43 rfl rfl rfl ?_
                  refine w_iload_n (nx := 45) C 2 dL_digest_44 rfl rfl rfl ?_
                  obtain ⟨_, hv_31⟩ := RX_recv (G := kG κ) (h := h) (w := w3) (X := X) (by assumption)
                  refine w_callV (nx := 48) (wr := []) (rest := [.int (nI p)]) (ci := 8) C mi_X8_count (k_cntT _ _ h w3 X t (by first | assumption | omega) (by first | assumption | omega)) 0 dL_digest_45 rfl wl_L_12 rfl rfl hv_31 (pm_blkc [w3] [0] [] 1 (by decide +kernel) rfl rfl rfl rfl) rfl rfl (Nat.le_of_ble_eq_true rfl) (Nat.le_of_ble_eq_true rfl) (Nat.le_of_ble_eq_true rfl) (Nat.zero_le _) (Nat.zero_le _) (fun v9 w2_32 R_30 => ?_)
                  obtain ⟨w9, rfl, rfl, hR2_33⟩ := R_30
                  refine ww_perm (pm_blkj [w2_32] [] [0] 1 (by decide +kernel) rfl rfl rfl rfl) ?_
                  show WW κ 0 0 ((w2_32)) 48 [(0, .ref h), (1, .long d3), (3, .int (nI t)), (4, .int (nI p))] [.int (nI (zT (sT (xS X)) t)), .int (nI p)]
                  refine n_icmp_ge (tg := 87) (nx := 51) C dL_digest_48 rfl rfl (by omega) (by omega) (fun h_34 => ?_) (fun h_34 => ?_)
                  · refine w_iinc (nx := 90) (lo2 := [(3, .int (nI (t + 1))), (0, .ref h), (1, .long d3), (4, .int (nI p))]) C (nI (t + 1)) 2 dL_digest_87 rfl rfl (nI_add _ _) (by decide) rfl ?_
                    refine w_goto (nx := 33) C dL_digest_90 rfl ?_
                    refine ww_lo [1, 2, 0] (lo' := [(0, .ref h), (1, .long d3), (3, .int (nI (t + 1)))]) rfl ?_
                    exact ih9_33 (t + 1) w2_32 d3 (by first | assumption | omega) (by first | assumption | omega) (hd3.trans (show dB (xS X) t p d2 = dB (xS X) t (zT (sT (xS X)) t) (dB2 (xS X) t (dA (xS X) 10)) by rw [show p = zT (sT (xS X)) t by omega, hd2])) (by omega)
                  · refine w_ldc2 (nx := 54) C 31 dL_digest_51 rfl wk_L_10 ?_
                    refine w_ldc2 (nx := 57) C 31 dL_digest_54 rfl wk_L_10 ?_
                    refine w_lload_n (nx := 58) C 1 dL_digest_57 rfl rfl rfl ?_
                    refine w_lmul (nx := 59) C (31 * d3) dL_digest_58 rfl rfl ?_
                    refine w_aload_n (nx := 60) C 0 dL_digest_59 rfl rfl rfl ?_
                    refine w_iload_n (nx := 61) C 2 dL_digest_60 rfl rfl rfl ?_
                    refine w_iload (nx := 63) C 3 dL_digest_61 rfl rfl ?_
                    refine w_iconst (nx := 64) C (nI 0) dL_digest_63 rfl (by decide) ?_
                    obtain ⟨_, hv_36⟩ := RX_recv (G := kG κ) (h := h) (w := w2_32) (X := X) (by assumption)
                    refine w_callV (nx := 67) (wr := []) (rest := [.long (31 * d3), .long 31]) (ci := 8) C mi_X8_row (k_row0 _ _ h w2_32 X t p (by first | assumption | omega) (by first | assumption | omega) (by first | assumption | omega) (by first | assumption | omega)) 0 dL_digest_64 rfl wl_L_18 rfl rfl hv_36 (pm_blkc [w2_32] [0] [] 1 (by decide +kernel) rfl rfl rfl rfl) rfl rfl (Nat.le_of_ble_eq_true rfl) (Nat.le_of_ble_eq_true rfl) (Nat.le_of_ble_eq_true rfl) (Nat.zero_le _) (Nat.zero_le _) (fun v9 w2_37 R_35 => ?_)
                    obtain ⟨w9, rfl, rfl, hR2_38⟩ := R_35
                    refine ww_perm (pm_blkj [w2_37] [] [0] 1 (by decide +kernel) rfl rfl rfl rfl) ?_
                    show WW κ 0 0 ((w2_37)) 67 [(0, .ref h), (1, .long d3), (3, .int (nI t)), (4, .int (nI p))] [.int (nI (kT (sT (xS X)) t p)), .long (31 * d3), .long 31]
                    refine w_i2l (nx := 68) C ((nI (kT (sT (xS X)) t p)).toInt64) dL_digest_67 rfl rfl ?_
                    refine w_ladd (nx := 69) C ((31 * d3) + ((nI (kT (sT (xS X)) t p)).toInt64)) dL_digest_68 rfl rfl ?_
                    refine w_lmul (nx := 70) C (31 * ((31 * d3) + ((nI (kT (sT (xS X)) t p)).toInt64))) dL_digest_69 rfl rfl ?_
                    refine w_aload_n (nx := 71) C 0 dL_digest_70 rfl rfl rfl ?_
                    refine w_iload_n (nx := 72) C 2 dL_digest_71 rfl rfl rfl ?_
                    refine w_iload (nx := 74) C 3 dL_digest_72 rfl rfl ?_
                    refine w_iconst (nx := 75) C (nI 1) dL_digest_74 rfl (by decide) ?_
                    obtain ⟨_, hv_40⟩ := RX_recv (G := kG κ) (h := h) (w := w2_37) (X := X) (by assumption)
                    refine w_callV (nx := 78) (wr := []) (rest := [.long (31 * ((31 * d3) + ((nI (kT (sT (xS X)) t p)).toInt64)))]) (ci := 8) C mi_X8_row (k_row1 _ _ h w2_37 X t p (by first | assumption | omega) (by first | assumption | omega) (by first | assumption | omega) (by first | assumption | omega)) 0 dL_digest_75 rfl wl_L_18 rfl rfl hv_40 (pm_blkc [w2_37] [0] [] 1 (by decide +kernel) rfl rfl rfl rfl) rfl rfl (Nat.le_of_ble_eq_true rfl) (Nat.le_of_ble_eq_true rfl) (Nat.le_of_ble_eq_true rfl) (Nat.zero_le _) (Nat.zero_le _) (fun v9 w2_41 R_39 => ?_)
                    obtain ⟨w9, rfl, rfl, hR2_42⟩ := R_39
                    refine ww_perm (pm_blkj [w2_41] [] [0] 1 (by decide +kernel) rfl rfl rfl rfl) ?_
                    show WW κ 0 0 ((w2_41)) 78 [(0, .ref h), (1, .long d3), (3, .int (nI t)), (4, .int (nI p))] [.int (nI (nT (sT (xS X)) t p)), .long (31 * ((31 * d3) + ((nI (kT (sT (xS X)) t p)).toInt64)))]
                    refine w_i2l (nx := 79) C ((nI (nT (sT (xS X)) t p)).toInt64) dL_digest_78 rfl rfl ?_
                    refine w_ladd (nx := 80) C ((31 * ((31 * d3) + ((nI (kT (sT (xS X)) t p)).toInt64))) + ((nI (nT (sT (xS X)) t p)).toInt64)) dL_digest_79 rfl rfl ?_
                    refine w_lstore_n (nx := 81) (lo2 := [(1, .long ((31 * ((31 * d3) + ((nI (kT (sT (xS X)) t p)).toInt64))) + ((nI (nT (sT (xS X)) t p)).toInt64))), (0, .ref h), (3, .int (nI t)), (4, .int (nI p))]) C dL_digest_80 rfl rfl (by decide) rfl ?_
                    refine w_iinc (nx := 84) (lo2 := [(4, .int (nI (p + 1))), (1, .long ((31 * ((31 * d3) + ((nI (kT (sT (xS X)) t p)).toInt64))) + ((nI (nT (sT (xS X)) t p)).toInt64))), (0, .ref h), (3, .int (nI t))]) C (nI (p + 1)) 3 dL_digest_81 rfl rfl (nI_add _ _) (by decide) rfl ?_
                    refine w_goto (nx := 41) C dL_digest_84 rfl ?_
                    refine ww_lo [2, 1, 3, 0] (lo' := [(0, .ref h), (1, .long ((31 * ((31 * d3) + ((nI (kT (sT (xS X)) t p)).toInt64))) + ((nI (nT (sT (xS X)) t p)).toInt64))), (3, .int (nI t)), (4, .int (nI (p + 1)))]) rfl ?_
                    exact ih9_41 (p + 1) w2_41 ((31 * ((31 * d3) + ((nI (kT (sT (xS X)) t p)).toInt64))) + ((nI (nT (sT (xS X)) t p)).toInt64)) (by first | assumption | omega) (by first | assumption | omega) (by rw [hd3]; rfl) (by omega)
              refine ww_lo [1, 2, 3, 0] (lo' := [(0, .ref h), (1, .long d2), (3, .int (nI t)), (4, .int (nI 0))]) rfl ?_
              exact LP_29 _ 0 w1 d2 (by first | assumption | omega) (by first | assumption | omega) (rfl) (Nat.lt_succ_self _)
        refine ww_lo [1, 2, 0] (lo' := [(0, .ref h), (1, .long d), (3, .int (nI 0))]) rfl ?_
        exact LP_3 _ 0 w1 d (by first | assumption | omega) (by first | assumption | omega) (hd.trans (congrArg (dA (xS X)) (by omega : k = 10))) (Nat.lt_succ_self _)
      · refine w_ldc2 (nx := 15) C 31 dL_digest_12 rfl wk_L_10 ?_
        refine w_lload_n (nx := 16) C 1 dL_digest_15 rfl rfl rfl ?_
        refine w_lmul (nx := 17) C (31 * d) dL_digest_16 rfl rfl ?_
        refine w_aload_n (nx := 18) C 0 dL_digest_17 rfl rfl rfl ?_
        refine w_iload_n (nx := 19) C 2 dL_digest_18 rfl rfl rfl ?_
        obtain ⟨_, hv_44⟩ := RX_recv (G := kG κ) (h := h) (w := w1) (X := X) (by assumption)
        refine w_callV (nx := 22) (wr := []) (rest := [.long (31 * d)]) (ci := 8) C mi_X8_count (k_count _ _ h w1 X k (by first | assumption | omega) (by first | assumption | omega)) 0 dL_digest_19 rfl wl_L_12 rfl rfl hv_44 (pm_blkc [w1] [0] [] 1 (by decide +kernel) rfl rfl rfl rfl) rfl rfl (Nat.le_of_ble_eq_true rfl) (Nat.le_of_ble_eq_true rfl) (Nat.le_of_ble_eq_true rfl) (Nat.zero_le _) (Nat.zero_le _) (fun v9 w2_45 R_43 => ?_)
        obtain ⟨w9, rfl, rfl, hR2_46⟩ := R_43
        refine ww_perm (pm_blkj [w2_45] [] [0] 1 (by decide +kernel) rfl rfl rfl rfl) ?_
        show WW κ 0 0 ((w2_45)) 22 [(0, .ref h), (1, .long d), (3, .int (nI k))] [.int (cvS (xS X) k), .long (31 * d)]
        refine w_i2l (nx := 23) C ((cvS (xS X) k).toInt64) dL_digest_22 rfl rfl ?_
        refine w_ladd (nx := 24) C ((31 * d) + ((cvS (xS X) k).toInt64)) dL_digest_23 rfl rfl ?_
        refine w_lstore_n (nx := 25) (lo2 := [(1, .long ((31 * d) + ((cvS (xS X) k).toInt64))), (0, .ref h), (3, .int (nI k))]) C dL_digest_24 rfl rfl (by decide) rfl ?_
        refine w_iinc (nx := 28) (lo2 := [(3, .int (nI (k + 1))), (1, .long ((31 * d) + ((cvS (xS X) k).toInt64))), (0, .ref h)]) C (nI (k + 1)) 2 dL_digest_25 rfl rfl (nI_add _ _) (by decide) rfl ?_
        refine w_goto (nx := 6) C dL_digest_28 rfl ?_
        refine ww_lo [2, 1, 0] (lo' := [(0, .ref h), (1, .long ((31 * d) + ((cvS (xS X) k).toInt64))), (3, .int (nI (k + 1)))]) rfl ?_
        exact ih9_6 (k + 1) w2_45 ((31 * d) + ((cvS (xS X) k).toInt64)) (by first | assumption | omega) (by first | assumption | omega) (by rw [hd]; rfl) (by omega)
  refine ww_lo [2, 1, 0] (lo' := [(0, .ref h), (1, .long 3), (3, .int (nI 0))]) rfl ?_
  exact LP_1 _ 0 w 3 (by first | assumption | omega) (by first | assumption | omega) (rfl) (Nat.lt_succ_self _)
