theorem sh0 : ∀ o, o < 12 → (0 : Int32) <<< (nI o &&& 31) = nI 0 := by decide +kernel
theorem nI_m1 {a : Nat} (h : a < 2 ^ 31) : ¬ nI a ≤ -1 := by
  rw [Int32.le_iff_toInt_le, nI_toInt h]
  have : (-1 : Int32).toInt = -1 := by decide
  omega
theorem nI_nle' {a b : Nat} (ha : a < 2 ^ 31) (hb : b < 2 ^ 31) (h : b < a) : ¬ nI a ≤ nI b := fun z => absurd ((nI_leI ha hb).mp z) (by omega)
theorem sh_of {σ : SG} {k : Nat} (hk : k < 12) : oft σ k 9 <<< (nI k &&& 31) = nI (if slfB (sR σ) k = true then 2 ^ k else 0) := by
  show (if slfB (sR σ) k = true then (1 : Int32) else 0) <<< (nI k &&& 31) = _
  split
  · exact sh1 k hk
  · exact sh0 k hk
theorem slf_or {ρ : TR} {k : Nat} : nI (slfN ρ k) ||| nI (if slfB ρ k = true then 2 ^ k else 0) = nI (slfN ρ (k + 1)) := by
  refine (nI_or _ _).trans (congrArg nI ?_)
  show _ = (if slfB ρ k = true then slfN ρ k ||| 2 ^ k else slfN ρ k)
  split
  · rfl
  · exact Nat.or_zero _
set_option maxHeartbeats 4000000 in
set_option maxRecDepth 100000 in
theorem c_L_holds (l : Launch) (G : GG) (h : Nat) (w : va_W) (X : SX) (hRX : RX G h w X) (ha : asT (sT (xS X))) : MT l G yL_holds cL_holds 6 (some .boolean) 7 0 0 [.ref h] ((w)) (fun v9 ws9 => ∃ (w2 : va_W), v9 = some (.int (nI 1)) ∧ ws9 = ((w2)) ∧ RX G h w2 X) := by
  refine MT.of RL [(0, .ref h)] (by decide +kernel) rfl rfl (Nat.le_of_ble_eq_true rfl) (fun κ C E hl9 hG9 hnm9 => ?_)
  subst hl9; subst hG9
  have hO := RX_wf hRX
  have hn12 := hO.1.2.2.2.1.1
  have hj100 := hO.1.2.2.2.2
  refine w_iconst (nx := 1) C (nI 0) dL_holds_0 rfl (by decide) ?_
  refine w_istore_n (nx := 2) (lo2 := [(1, .int (nI 0)), (0, .ref h)]) C dL_holds_1 rfl rfl (by decide) rfl ?_
  refine w_iconst (nx := 3) C (nI 0) dL_holds_2 rfl (by decide) ?_
  refine w_istore_n (nx := 4) (lo2 := [(2, .int (nI 0)), (1, .int (nI 0)), (0, .ref h)]) C dL_holds_3 rfl rfl (by decide) rfl ?_
  have LP_1 : ∀ (N9_4 : Nat) (t : Nat) (w1 : va_W) (s : Nat), (t ≤ 4) → (RX (kG κ) h w1 X) → (s = sumT (sT (xS X)) t) → (4 - t) < N9_4 → WW κ 0 0 ((w1)) 4 [(0, .ref h), (1, .int (nI s)), (2, .int (nI t))] [] := by
    intro N9_4
    induction N9_4 with
    | zero => intro t w1 s ht hR1 hs hm9_4; exact absurd hm9_4 (Nat.not_lt_zero _)
    | succ N9_4 ih9_4 =>
      intro t w1 s ht hR1 hs hm9_4
      refine w_iload_n (nx := 5) C 2 dL_holds_4 rfl rfl rfl ?_
      refine w_iconst (nx := 6) C (nI 4) dL_holds_5 rfl (by decide) ?_
      refine n_icmp_ge (tg := 120) (nx := 9) C dL_holds_6 rfl rfl (by omega) (by omega) (fun h_2 => ?_) (fun h_2 => ?_)
      · refine w_iconst (nx := 121) C (nI 0) dL_holds_120 rfl (by decide) ?_
        refine w_istore_n (nx := 122) (lo2 := [(2, .int (nI 0)), (0, .ref h), (1, .int (nI s))]) C dL_holds_121 rfl rfl (by decide) rfl ?_
        refine w_iconst (nx := 123) C (nI 0) dL_holds_122 rfl (by decide) ?_
        refine w_istore_n (nx := 124) (lo2 := [(3, .int (nI 0)), (2, .int (nI 0)), (0, .ref h), (1, .int (nI s))]) C dL_holds_123 rfl rfl (by decide) rfl ?_
        have LP_3 : ∀ (N9_124 : Nat) (k : Nat) (w4 : va_W) (m : Nat), (k ≤ (sR (xS X)).1) → (RX (kG κ) h w4 X) → (m = slfN (sR (xS X)) k) → ((sR (xS X)).1 - k) < N9_124 → WW κ 0 0 ((w4)) 124 [(0, .ref h), (1, .int (nI s)), (2, .int (nI m)), (3, .int (nI k))] [] := by
          intro N9_124
          induction N9_124 with
          | zero => intro k w4 m hk hR4 hm hm9_124; exact absurd hm9_124 (Nat.not_lt_zero _)
          | succ N9_124 ih9_124 =>
            intro k w4 m hk hR4 hm hm9_124
            refine w_iload_n (nx := 125) C 3 dL_holds_124 rfl rfl rfl ?_
            refine w_aload_n (nx := 126) C 0 dL_holds_125 rfl rfl rfl ?_
            refine w_iconst (nx := 127) C (nI 4) dL_holds_126 rfl (by decide) ?_
            obtain ⟨_, hv_5⟩ := RX_recv (G := kG κ) (h := h) (w := w4) (X := X) (by assumption)
            refine w_callV (nx := 130) (wr := []) (rest := [.int (nI k)]) (ci := 8) C mi_X8_count (k_cnt4 _ _ h w4 X (by first | assumption | omega)) 0 dL_holds_127 rfl wl_L_12 rfl rfl hv_5 (pm_blkc [w4] [0] [] 1 (by decide +kernel) rfl rfl rfl rfl) rfl rfl (Nat.le_of_ble_eq_true rfl) (Nat.le_of_ble_eq_true rfl) (Nat.le_of_ble_eq_true rfl) (Nat.zero_le _) (Nat.zero_le _) (fun v9 w2_6 R_4 => ?_)
            obtain ⟨w9, rfl, rfl, hR2_7⟩ := R_4
            refine ww_perm (pm_blkj [w2_6] [] [0] 1 (by decide +kernel) rfl rfl rfl rfl) ?_
            show WW κ 0 0 ((w2_6)) 130 [(0, .ref h), (1, .int (nI s)), (2, .int (nI m)), (3, .int (nI k))] [.int (nI ((sR (xS X)).1)), .int (nI k)]
            refine n_icmp_ge (tg := 151) (nx := 133) C dL_holds_130 rfl rfl (by omega) (by omega) (fun h_8 => ?_) (fun h_8 => ?_)
            · have hsum : nI s = cvS (xS X) 6 := by rw [hs, show t = 4 by omega]; rfl
              have hslf : nI m = cvS (xS X) 9 := by rw [hm, show k = (sR (xS X)).1 by omega]; rfl
              refine w_iload_n (nx := 152) C 1 dL_holds_151 rfl rfl rfl ?_
              refine w_aload_n (nx := 153) C 0 dL_holds_152 rfl rfl rfl ?_
              refine w_bipush (nx := 155) C (nI 6) dL_holds_153 rfl (by decide) ?_
              obtain ⟨_, hv_10⟩ := RX_recv (G := kG κ) (h := h) (w := w2_6) (X := X) (by assumption)
              refine w_callV (nx := 158) (wr := []) (rest := [.int (nI s)]) (ci := 8) C mi_X8_count (k_cnt6 _ _ h w2_6 X (by first | assumption | omega)) 0 dL_holds_155 rfl wl_L_12 rfl rfl hv_10 (pm_blkc [w2_6] [0] [] 1 (by decide +kernel) rfl rfl rfl rfl) rfl rfl (Nat.le_of_ble_eq_true rfl) (Nat.le_of_ble_eq_true rfl) (Nat.le_of_ble_eq_true rfl) (Nat.zero_le _) (Nat.zero_le _) (fun v9 w2_11 R_9 => ?_)
              obtain ⟨w9, rfl, rfl, hR2_12⟩ := R_9
              refine ww_perm (pm_blkj [w2_11] [] [0] 1 (by decide +kernel) rfl rfl rfl rfl) ?_
              show WW κ 0 0 ((w2_11)) 158 [(0, .ref h), (1, .int (nI s)), (2, .int (nI m)), (3, .int (nI k))] [.int (cvS (xS X) 6), .int (nI s)]
              refine w_icmp_ne (tg := 185) (nx := 161) C dL_holds_158 rfl rfl (fun h_13 => ?_) (fun h_13 => ?_)
              · exact absurd hsum h_13
              · refine w_iload_n (nx := 162) C 2 dL_holds_161 rfl rfl rfl ?_
                refine w_aload_n (nx := 163) C 0 dL_holds_162 rfl rfl rfl ?_
                refine w_bipush (nx := 165) C (nI 9) dL_holds_163 rfl (by decide) ?_
                obtain ⟨_, hv_15⟩ := RX_recv (G := kG κ) (h := h) (w := w2_11) (X := X) (by assumption)
                refine w_callV (nx := 168) (wr := []) (rest := [.int (nI m)]) (ci := 8) C mi_X8_count (k_cnt9 _ _ h w2_11 X (by first | assumption | omega)) 0 dL_holds_165 rfl wl_L_12 rfl rfl hv_15 (pm_blkc [w2_11] [0] [] 1 (by decide +kernel) rfl rfl rfl rfl) rfl rfl (Nat.le_of_ble_eq_true rfl) (Nat.le_of_ble_eq_true rfl) (Nat.le_of_ble_eq_true rfl) (Nat.zero_le _) (Nat.zero_le _) (fun v9 w2_16 R_14 => ?_)
                obtain ⟨w9, rfl, rfl, hR2_17⟩ := R_14
                refine ww_perm (pm_blkj [w2_16] [] [0] 1 (by decide +kernel) rfl rfl rfl rfl) ?_
                show WW κ 0 0 ((w2_16)) 168 [(0, .ref h), (1, .int (nI s)), (2, .int (nI m)), (3, .int (nI k))] [.int (cvS (xS X) 9), .int (nI m)]
                refine w_icmp_ne (tg := 185) (nx := 171) C dL_holds_168 rfl rfl (fun h_18 => ?_) (fun h_18 => ?_)
                · exact absurd hslf h_18
                · refine w_aload_n (nx := 172) C 0 dL_holds_171 rfl rfl rfl ?_
                  refine w_iconst (nx := 173) C (nI 5) dL_holds_172 rfl (by decide) ?_
                  obtain ⟨_, hv_20⟩ := RX_recv (G := kG κ) (h := h) (w := w2_16) (X := X) (by assumption)
                  refine w_callV (nx := 176) (wr := []) (rest := []) (ci := 8) C mi_X8_count (k_cnt5 _ _ h w2_16 X (by first | assumption | omega)) 0 dL_holds_173 rfl wl_L_12 rfl rfl hv_20 (pm_blkc [w2_16] [0] [] 1 (by decide +kernel) rfl rfl rfl rfl) rfl rfl (Nat.le_of_ble_eq_true rfl) (Nat.le_of_ble_eq_true rfl) (Nat.le_of_ble_eq_true rfl) (Nat.zero_le _) (Nat.zero_le _) (fun v9 w2_21 R_19 => ?_)
                  obtain ⟨w9, rfl, rfl, hR2_22⟩ := R_19
                  refine ww_perm (pm_blkj [w2_21] [] [0] 1 (by decide +kernel) rfl rfl rfl rfl) ?_
                  show WW κ 0 0 ((w2_21)) 176 [(0, .ref h), (1, .int (nI s)), (2, .int (nI m)), (3, .int (nI k))] [.int (nI ((sJ (xS X)).1))]
                  refine w_bipush (nx := 178) C (nI 100) dL_holds_176 rfl (by decide) ?_
                  refine n_icmp_gt (tg := 185) (nx := 181) C dL_holds_178 rfl rfl (by omega) (by omega) (fun h_23 => ?_) (fun h_23 => ?_)
                  · exact absurd h_23 (by omega)
                  · refine w_iconst (nx := 182) C (nI 1) dL_holds_181 rfl (by decide) ?_
                    refine w_goto (nx := 186) C dL_holds_182 rfl ?_
                    exact w_iret (ty := .boolean) C E dL_holds_186 rfl rfl (Nat.le_refl _) (Nat.le_refl _) ⟨_, rfl, rfl, (by first | assumption | rfl | omega)⟩
            · refine w_iload_n (nx := 134) C 2 dL_holds_133 rfl rfl rfl ?_
              refine w_aload_n (nx := 135) C 0 dL_holds_134 rfl rfl rfl ?_
              refine w_iload_n (nx := 136) C 3 dL_holds_135 rfl rfl rfl ?_
              refine w_bipush (nx := 138) C (nI 9) dL_holds_136 rfl (by decide) ?_
              obtain ⟨_, hv_25⟩ := RX_recv (G := kG κ) (h := h) (w := w2_6) (X := X) (by assumption)
              refine w_callV (nx := 141) (wr := []) (rest := [.int (nI m)]) (ci := 8) C mi_X8_ofTrigger (k_ofT _ _ h w2_6 X k 9 (by first | assumption | omega) (by first | assumption | omega) (by first | assumption | omega) (by first | assumption | omega)) 0 dL_holds_138 rfl wl_L_22 rfl rfl hv_25 (pm_blkc [w2_6] [0] [] 1 (by decide +kernel) rfl rfl rfl rfl) rfl rfl (Nat.le_of_ble_eq_true rfl) (Nat.le_of_ble_eq_true rfl) (Nat.le_of_ble_eq_true rfl) (Nat.zero_le _) (Nat.zero_le _) (fun v9 w2_26 R_24 => ?_)
              obtain ⟨w9, rfl, rfl, hR2_27⟩ := R_24
              refine ww_perm (pm_blkj [w2_26] [] [0] 1 (by decide +kernel) rfl rfl rfl rfl) ?_
              show WW κ 0 0 ((w2_26)) 141 [(0, .ref h), (1, .int (nI s)), (2, .int (nI m)), (3, .int (nI k))] [.int (oft (xS X) k 9), .int (nI m)]
              refine w_iload_n (nx := 142) C 3 dL_holds_141 rfl rfl rfl ?_
              refine w_ishl (nx := 143) C (nI (if slfB (sR (xS X)) k = true then 2 ^ k else 0)) dL_holds_142 rfl (sh_of (by omega)) ?_
              refine w_ior (nx := 144) C (nI (slfN (sR (xS X)) (k + 1))) dL_holds_143 rfl (by rw [hm]; exact slf_or) ?_
              refine w_istore_n (nx := 145) (lo2 := [(2, .int (nI (slfN (sR (xS X)) (k + 1)))), (0, .ref h), (1, .int (nI s)), (3, .int (nI k))]) C dL_holds_144 rfl rfl (by decide) rfl ?_
              refine w_iinc (nx := 148) (lo2 := [(3, .int (nI (k + 1))), (2, .int (nI (slfN (sR (xS X)) (k + 1)))), (0, .ref h), (1, .int (nI s))]) C (nI (k + 1)) 3 dL_holds_145 rfl rfl (nI_add _ _) (by decide) rfl ?_
              refine w_goto (nx := 124) C dL_holds_148 rfl ?_
              refine ww_lo [2, 3, 1, 0] (lo' := [(0, .ref h), (1, .int (nI s)), (2, .int (nI (slfN (sR (xS X)) (k + 1)))), (3, .int (nI (k + 1)))]) rfl ?_
              exact ih9_124 (k + 1) w2_26 (slfN (sR (xS X)) (k + 1)) (by first | assumption | omega) (by first | assumption | omega) (rfl) (by omega)
        refine ww_lo [2, 3, 1, 0] (lo' := [(0, .ref h), (1, .int (nI s)), (2, .int (nI 0)), (3, .int (nI 0))]) rfl ?_
        exact LP_3 _ 0 w1 0 (by first | assumption | omega) (by first | assumption | omega) (rfl) (Nat.lt_succ_self _)
      · have hzt := (hO.1.2.2.1 t (by omega)).1
        refine w_iconst (nx := 10) C (-1) dL_holds_9 rfl (by decide) ?_
        refine w_istore_n (nx := 11) (lo2 := [(3, .int (-1)), (0, .ref h), (1, .int (nI s)), (2, .int (nI t))]) C dL_holds_10 rfl rfl (by decide) rfl ?_
        refine w_iconst (nx := 12) C (nI 0) dL_holds_11 rfl (by decide) ?_
        refine w_istore (nx := 14) (lo2 := [(4, .int (nI 0)), (3, .int (-1)), (0, .ref h), (1, .int (nI s)), (2, .int (nI t))]) C dL_holds_12 rfl (by decide) rfl ?_
        have LP_28 : ∀ (N9_14 : Nat) (p : Nat) (w3 : va_W) (s1 : Nat) (bf : Int32), (p ≤ zT (sT (xS X)) t) → (RX (kG κ) h w3 X) → (s1 = s + sN (nT (sT (xS X)) t) p) → (p < zT (sT (xS X)) t → ¬ nI (kT (sT (xS X)) t p) ≤ bf) → (zT (sT (xS X)) t - p) < N9_14 → WW κ 0 0 ((w3)) 14 [(0, .ref h), (1, .int (nI s1)), (2, .int (nI t)), (3, .int bf), (4, .int (nI p))] [] := by
          intro N9_14
          induction N9_14 with
          | zero => intro p w3 s1 bf hp hR3 hs1 hbf hm9_14; exact absurd hm9_14 (Nat.not_lt_zero _)
          | succ N9_14 ih9_14 =>
            intro p w3 s1 bf hp hR3 hs1 hbf hm9_14
            refine w_iload (nx := 16) C 4 dL_holds_14 rfl rfl ?_
            refine w_aload_n (nx := 17) C 0 dL_holds_16 rfl rfl rfl ?_
            refine w_iload_n (nx := 18) C 2 dL_holds_17 rfl rfl rfl ?_
            obtain ⟨_, hv_30⟩ := RX_recv (G := kG κ) (h := h) (w := w3) (X := X) (by assumption)
            refine w_callV (nx := 21) (wr := []) (rest := [.int (nI p)]) (ci := 8) C mi_X8_count (k_cntT _ _ h w3 X t (by first | assumption | omega) (by first | assumption | omega)) 0 dL_holds_18 rfl wl_L_12 rfl rfl hv_30 (pm_blkc [w3] [0] [] 1 (by decide +kernel) rfl rfl rfl rfl) rfl rfl (Nat.le_of_ble_eq_true rfl) (Nat.le_of_ble_eq_true rfl) (Nat.le_of_ble_eq_true rfl) (Nat.zero_le _) (Nat.zero_le _) (fun v9 w2_31 R_29 => ?_)
            obtain ⟨w9, rfl, rfl, hR2_32⟩ := R_29
            refine ww_perm (pm_blkj [w2_31] [] [0] 1 (by decide +kernel) rfl rfl rfl rfl) ?_
            show WW κ 0 0 ((w2_31)) 21 [(0, .ref h), (1, .int (nI s1)), (2, .int (nI t)), (3, .int bf), (4, .int (nI p))] [.int (nI (zT (sT (xS X)) t)), .int (nI p)]
            refine n_icmp_ge (tg := 87) (nx := 24) C dL_holds_21 rfl rfl (by omega) (by omega) (fun h_33 => ?_) (fun h_33 => ?_)
            · refine w_aload_n (nx := 88) C 0 dL_holds_87 rfl rfl rfl ?_
              refine w_iload_n (nx := 89) C 2 dL_holds_88 rfl rfl rfl ?_
              obtain ⟨_, hv_35⟩ := RX_recv (G := kG κ) (h := h) (w := w2_31) (X := X) (by assumption)
              refine w_callV (nx := 92) (wr := []) (rest := []) (ci := 8) C mi_X8_count (k_cntT _ _ h w2_31 X t (by first | assumption | omega) (by first | assumption | omega)) 0 dL_holds_89 rfl wl_L_12 rfl rfl hv_35 (pm_blkc [w2_31] [0] [] 1 (by decide +kernel) rfl rfl rfl rfl) rfl rfl (Nat.le_of_ble_eq_true rfl) (Nat.le_of_ble_eq_true rfl) (Nat.le_of_ble_eq_true rfl) (Nat.zero_le _) (Nat.zero_le _) (fun v9 w2_36 R_34 => ?_)
              obtain ⟨w9, rfl, rfl, hR2_37⟩ := R_34
              refine ww_perm (pm_blkj [w2_36] [] [0] 1 (by decide +kernel) rfl rfl rfl rfl) ?_
              show WW κ 0 0 ((w2_36)) 92 [(0, .ref h), (1, .int (nI s1)), (2, .int (nI t)), (3, .int bf), (4, .int (nI p))] [.int (nI (zT (sT (xS X)) t))]
              refine w_bipush (nx := 94) C (nI 12) dL_holds_92 rfl (by decide) ?_
              refine n_icmp_gt (tg := 112) (nx := 97) C dL_holds_94 rfl rfl (by omega) (by omega) (fun h_38 => ?_) (fun h_38 => ?_)
              · exact absurd h_38 (by omega)
              · refine w_aload_n (nx := 98) C 0 dL_holds_97 rfl rfl rfl ?_
                refine w_iload_n (nx := 99) C 2 dL_holds_98 rfl rfl rfl ?_
                refine w_aload_n (nx := 100) C 0 dL_holds_99 rfl rfl rfl ?_
                refine w_iload_n (nx := 101) C 2 dL_holds_100 rfl rfl rfl ?_
                obtain ⟨_, hv_40⟩ := RX_recv (G := kG κ) (h := h) (w := w2_36) (X := X) (by assumption)
                refine w_callV (nx := 104) (wr := []) (rest := [.int (nI t), .ref h]) (ci := 8) C mi_X8_count (k_cntT _ _ h w2_36 X t (by first | assumption | omega) (by first | assumption | omega)) 0 dL_holds_101 rfl wl_L_12 rfl rfl hv_40 (pm_blkc [w2_36] [0] [] 1 (by decide +kernel) rfl rfl rfl rfl) rfl rfl (Nat.le_of_ble_eq_true rfl) (Nat.le_of_ble_eq_true rfl) (Nat.le_of_ble_eq_true rfl) (Nat.zero_le _) (Nat.zero_le _) (fun v9 w2_41 R_39 => ?_)
                obtain ⟨w9, rfl, rfl, hR2_42⟩ := R_39
                refine ww_perm (pm_blkj [w2_41] [] [0] 1 (by decide +kernel) rfl rfl rfl rfl) ?_
                show WW κ 0 0 ((w2_41)) 104 [(0, .ref h), (1, .int (nI s1)), (2, .int (nI t)), (3, .int bf), (4, .int (nI p))] [.int (nI (zT (sT (xS X)) t)), .int (nI t), .ref h]
                refine w_iconst (nx := 105) C (nI 0) dL_holds_104 rfl (by decide) ?_
                obtain ⟨_, hv_44⟩ := RX_recv (G := kG κ) (h := h) (w := w2_41) (X := X) (by assumption)
                refine w_callV (nx := 108) (wr := []) (rest := []) (ci := 8) C mi_X8_row (k_rowE _ _ h w2_41 X t (by first | assumption | omega) (by first | assumption | omega) (by first | assumption | omega)) 0 dL_holds_105 rfl wl_L_18 rfl rfl hv_44 (pm_blkc [w2_41] [0] [] 1 (by decide +kernel) rfl rfl rfl rfl) rfl rfl (Nat.le_of_ble_eq_true rfl) (Nat.le_of_ble_eq_true rfl) (Nat.le_of_ble_eq_true rfl) (Nat.zero_le _) (Nat.zero_le _) (fun v9 w2_45 R_43 => ?_)
                obtain ⟨w9, rfl, rfl, hR2_46⟩ := R_43
                refine ww_perm (pm_blkj [w2_45] [] [0] 1 (by decide +kernel) rfl rfl rfl rfl) ?_
                show WW κ 0 0 ((w2_45)) 108 [(0, .ref h), (1, .int (nI s1)), (2, .int (nI t)), (3, .int bf), (4, .int (nI p))] [.int (-1)]
                refine w_iconst (nx := 109) C (-1) dL_holds_108 rfl (by decide) ?_
                refine w_icmp_eq (tg := 114) (nx := 112) C dL_holds_109 rfl rfl (fun _ => ?_) (fun q9 => absurd (by decide) q9)
                refine w_iinc (nx := 117) (lo2 := [(2, .int (nI (t + 1))), (0, .ref h), (1, .int (nI s1)), (3, .int bf), (4, .int (nI p))]) C (nI (t + 1)) 2 dL_holds_114 rfl rfl (nI_add _ _) (by decide) rfl ?_
                refine w_goto (nx := 4) C dL_holds_117 rfl ?_
                refine ww_lo [1, 2, 0] (lo' := [(0, .ref h), (1, .int (nI s1)), (2, .int (nI (t + 1)))]) rfl ?_
                exact ih9_4 (t + 1) w2_45 s1 (by first | assumption | omega) (by first | assumption | omega) (hs1.trans (show s + sN (nT (sT (xS X)) t) p = sumT (sT (xS X)) t + sN (nT (sT (xS X)) t) (zT (sT (xS X)) t) by rw [show p = zT (sT (xS X)) t by omega, hs])) (by omega)
            · have hkp := (hO.1.2.2.1 t (by omega)).2 p (by omega)
              refine w_aload_n (nx := 25) C 0 dL_holds_24 rfl rfl rfl ?_
              refine w_iload_n (nx := 26) C 2 dL_holds_25 rfl rfl rfl ?_
              refine w_iload (nx := 28) C 4 dL_holds_26 rfl rfl ?_
              refine w_iconst (nx := 29) C (nI 0) dL_holds_28 rfl (by decide) ?_
              obtain ⟨_, hv_49⟩ := RX_recv (G := kG κ) (h := h) (w := w2_31) (X := X) (by assumption)
              refine w_callV (nx := 32) (wr := []) (rest := []) (ci := 8) C mi_X8_row (k_row0 _ _ h w2_31 X t p (by first | assumption | omega) (by first | assumption | omega) (by first | assumption | omega) (by first | assumption | omega)) 0 dL_holds_29 rfl wl_L_18 rfl rfl hv_49 (pm_blkc [w2_31] [0] [] 1 (by decide +kernel) rfl rfl rfl rfl) rfl rfl (Nat.le_of_ble_eq_true rfl) (Nat.le_of_ble_eq_true rfl) (Nat.le_of_ble_eq_true rfl) (Nat.zero_le _) (Nat.zero_le _) (fun v9 w2_50 R_48 => ?_)
              obtain ⟨w9, rfl, rfl, hR2_51⟩ := R_48
              refine ww_perm (pm_blkj [w2_50] [] [0] 1 (by decide +kernel) rfl rfl rfl rfl) ?_
              show WW κ 0 0 ((w2_50)) 32 [(0, .ref h), (1, .int (nI s1)), (2, .int (nI t)), (3, .int bf), (4, .int (nI p))] [.int (nI (kT (sT (xS X)) t p))]
              refine w_istore (nx := 34) (lo2 := [(5, .int (nI (kT (sT (xS X)) t p))), (0, .ref h), (1, .int (nI s1)), (2, .int (nI t)), (3, .int bf), (4, .int (nI p))]) C dL_holds_32 rfl (by decide) rfl ?_
              refine w_iload (nx := 36) C 0 dL_holds_34 rfl rfl ?_
              refine w_iload_n (nx := 37) C 4 dL_holds_36 rfl rfl rfl ?_
              refine w_icmp_le (tg := 65) (nx := 40) C dL_holds_37 rfl rfl (fun h_52 => ?_) (fun h_52 => ?_)
              · exact absurd h_52 (hbf (by omega))
              · refine w_iload (nx := 42) C 0 dL_holds_40 rfl rfl ?_
                refine w_bipush (nx := 44) C (nI 99) dL_holds_42 rfl (by decide) ?_
                refine n_icmp_gt (tg := 65) (nx := 47) C dL_holds_44 rfl rfl (by omega) (by omega) (fun h_53 => ?_) (fun h_53 => ?_)
                · exact absurd h_53 (by omega)
                · refine w_aload_n (nx := 48) C 1 dL_holds_47 rfl rfl rfl ?_
                  refine w_iload_n (nx := 49) C 3 dL_holds_48 rfl rfl rfl ?_
                  refine w_iload (nx := 51) C 0 dL_holds_49 rfl rfl ?_
                  obtain ⟨_, hv_55⟩ := RX_recv (G := kG κ) (h := h) (w := w2_50) (X := X) (by assumption)
                  refine w_callV (nx := 54) (wr := []) (rest := []) (ci := 8) C mi_X8_value (k_value _ _ h w2_50 X t p (by first | assumption | omega) (by first | assumption | omega) (by first | assumption | omega) (by first | assumption | omega) (by first | assumption | omega)) 0 dL_holds_51 rfl wl_L_54 rfl rfl hv_55 (pm_blkc [w2_50] [0] [] 1 (by decide +kernel) rfl rfl rfl rfl) rfl rfl (Nat.le_of_ble_eq_true rfl) (Nat.le_of_ble_eq_true rfl) (Nat.le_of_ble_eq_true rfl) (Nat.zero_le _) (Nat.zero_le _) (fun v9 w2_56 R_54 => ?_)
                  obtain ⟨w9, rfl, rfl, hR2_57⟩ := R_54
                  refine ww_perm (pm_blkj [w2_56] [] [0] 1 (by decide +kernel) rfl rfl rfl rfl) ?_
                  show WW κ 0 0 ((w2_56)) 54 [(5, .int (nI (kT (sT (xS X)) t p))), (0, .ref h), (1, .int (nI s1)), (2, .int (nI t)), (3, .int bf), (4, .int (nI p))] [.int (nI (nT (sT (xS X)) t p))]
                  refine w_aload_n (nx := 55) C 1 dL_holds_54 rfl rfl rfl ?_
                  refine w_iload_n (nx := 56) C 3 dL_holds_55 rfl rfl rfl ?_
                  refine w_iload (nx := 58) C 5 dL_holds_56 rfl rfl ?_
                  refine w_iconst (nx := 59) C (nI 1) dL_holds_58 rfl (by decide) ?_
                  obtain ⟨_, hv_59⟩ := RX_recv (G := kG κ) (h := h) (w := w2_56) (X := X) (by assumption)
                  refine w_callV (nx := 62) (wr := []) (rest := [.int (nI (nT (sT (xS X)) t p))]) (ci := 8) C mi_X8_row (k_row1 _ _ h w2_56 X t p (by first | assumption | omega) (by first | assumption | omega) (by first | assumption | omega) (by first | assumption | omega)) 0 dL_holds_59 rfl wl_L_18 rfl rfl hv_59 (pm_blkc [w2_56] [0] [] 1 (by decide +kernel) rfl rfl rfl rfl) rfl rfl (Nat.le_of_ble_eq_true rfl) (Nat.le_of_ble_eq_true rfl) (Nat.le_of_ble_eq_true rfl) (Nat.zero_le _) (Nat.zero_le _) (fun v9 w2_60 R_58 => ?_)
                  obtain ⟨w9, rfl, rfl, hR2_61⟩ := R_58
                  refine ww_perm (pm_blkj [w2_60] [] [0] 1 (by decide +kernel) rfl rfl rfl rfl) ?_
                  show WW κ 0 0 ((w2_60)) 62 [(5, .int (nI (kT (sT (xS X)) t p))), (0, .ref h), (1, .int (nI s1)), (2, .int (nI t)), (3, .int bf), (4, .int (nI p))] [.int (nI (nT (sT (xS X)) t p)), .int (nI (nT (sT (xS X)) t p))]
                  refine n_icmp_eq (tg := 67) (nx := 65) C dL_holds_62 rfl rfl (by omega) (by omega) (fun h_62 => ?_) (fun h_62 => ?_)
                  · refine w_iload (nx := 69) C 0 dL_holds_67 rfl rfl ?_
                    refine w_istore_n (nx := 70) (lo2 := [(3, .int (nI (kT (sT (xS X)) t p))), (5, .int (nI (kT (sT (xS X)) t p))), (0, .ref h), (1, .int (nI s1)), (2, .int (nI t)), (4, .int (nI p))]) C dL_holds_69 rfl rfl (by decide) rfl ?_
                    refine w_iload_n (nx := 71) C 3 dL_holds_70 rfl rfl rfl ?_
                    refine w_aload_n (nx := 72) C 2 dL_holds_71 rfl rfl rfl ?_
                    refine w_iload_n (nx := 73) C 4 dL_holds_72 rfl rfl rfl ?_
                    refine w_iload (nx := 75) C 5 dL_holds_73 rfl rfl ?_
                    refine w_iconst (nx := 76) C (nI 1) dL_holds_75 rfl (by decide) ?_
                    obtain ⟨_, hv_64⟩ := RX_recv (G := kG κ) (h := h) (w := w2_60) (X := X) (by assumption)
                    refine w_callV (nx := 79) (wr := []) (rest := [.int (nI s1)]) (ci := 8) C mi_X8_row (k_row1 _ _ h w2_60 X t p (by first | assumption | omega) (by first | assumption | omega) (by first | assumption | omega) (by first | assumption | omega)) 0 dL_holds_76 rfl wl_L_18 rfl rfl hv_64 (pm_blkc [w2_60] [0] [] 1 (by decide +kernel) rfl rfl rfl rfl) rfl rfl (Nat.le_of_ble_eq_true rfl) (Nat.le_of_ble_eq_true rfl) (Nat.le_of_ble_eq_true rfl) (Nat.zero_le _) (Nat.zero_le _) (fun v9 w2_65 R_63 => ?_)
                    obtain ⟨w9, rfl, rfl, hR2_66⟩ := R_63
                    refine ww_perm (pm_blkj [w2_65] [] [0] 1 (by decide +kernel) rfl rfl rfl rfl) ?_
                    show WW κ 0 0 ((w2_65)) 79 [(3, .int (nI (kT (sT (xS X)) t p))), (5, .int (nI (kT (sT (xS X)) t p))), (0, .ref h), (1, .int (nI s1)), (2, .int (nI t)), (4, .int (nI p))] [.int (nI (nT (sT (xS X)) t p)), .int (nI s1)]
                    refine w_iadd (nx := 80) C (nI (s1 + nT (sT (xS X)) t p)) dL_holds_79 rfl (nI_add _ _) ?_
                    refine w_istore_n (nx := 81) (lo2 := [(1, .int (nI (s1 + nT (sT (xS X)) t p))), (3, .int (nI (kT (sT (xS X)) t p))), (5, .int (nI (kT (sT (xS X)) t p))), (0, .ref h), (2, .int (nI t)), (4, .int (nI p))]) C dL_holds_80 rfl rfl (by decide) rfl ?_
                    refine w_iinc (nx := 84) (lo2 := [(4, .int (nI (p + 1))), (1, .int (nI (s1 + nT (sT (xS X)) t p))), (3, .int (nI (kT (sT (xS X)) t p))), (5, .int (nI (kT (sT (xS X)) t p))), (0, .ref h), (2, .int (nI t))]) C (nI (p + 1)) 5 dL_holds_81 rfl rfl (nI_add _ _) (by decide) rfl ?_
                    refine w_goto (nx := 14) C dL_holds_84 rfl ?_
                    refine ww_lo [4, 1, 5, 2, 0] (lo' := [(0, .ref h), (1, .int (nI (s1 + nT (sT (xS X)) t p))), (2, .int (nI t)), (3, .int (nI (kT (sT (xS X)) t p))), (4, .int (nI (p + 1)))]) rfl ?_
                    exact ih9_14 (p + 1) w2_65 (s1 + nT (sT (xS X)) t p) (nI (kT (sT (xS X)) t p)) (by first | assumption | omega) (by first | assumption | omega) (by rw [hs1]; exact Nat.add_assoc _ _ _) (fun z9 => nI_nle' (Nat.lt_trans ((hO.1.2.2.1 t (by omega)).2 _ z9).1 (by decide)) (Nat.lt_trans hkp.1 (by decide)) (ha t (by omega) p (p + 1) (Nat.lt_succ_self _) z9)) (by omega)
                  · exact absurd rfl h_62
        refine ww_lo [2, 3, 4, 1, 0] (lo' := [(0, .ref h), (1, .int (nI s)), (2, .int (nI t)), (3, .int (-1)), (4, .int (nI 0))]) rfl ?_
        exact LP_28 _ 0 w1 s (-1) (by first | assumption | omega) (by first | assumption | omega) (rfl) (fun z9 => nI_m1 (Nat.lt_trans ((hO.1.2.2.1 t (by omega)).2 _ z9).1 (by decide))) (Nat.lt_succ_self _)
  refine ww_lo [2, 1, 0] (lo' := [(0, .ref h), (1, .int (nI 0)), (2, .int (nI 0))]) rfl ?_
  exact LP_1 _ 0 w 0 (by first | assumption | omega) (by first | assumption | omega) (rfl) (Nat.lt_succ_self _)
