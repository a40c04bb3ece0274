set_option maxHeartbeats 4000000 in
set_option maxRecDepth 100000 in
theorem c_X8_isWithin_n (l : Launch) (G : GG) (m : Nat) (L : Nat) (hm : m < 2 ^ 31) (hL : L < 2 ^ 31) : MT l G yX8_isWithin cX8_isWithin 2 (some .boolean) 1 0 0 [.int (nI m), .int (nI L)] [] (fun v9 ws9 => v9 = some (.int (bC (m < L))) ∧ ws9 = []) := by
  refine MT.of RX8 [(0, .int (nI m)), (1, .int (nI L))] (by decide +kernel) rfl rfl (Nat.le_of_ble_eq_true rfl) (fun κ C E hl9 hG9 hnm9 => ?_)
  subst hl9; subst hG9
  refine w_iload_n (nx := 1) C 0 dX8_isWithin_0 rfl rfl rfl ?_
  refine n_if_lt (tg := 13) (nx := 4) C dX8_isWithin_1 rfl rfl (by omega) ?_
  refine w_iload_n (nx := 5) C 0 dX8_isWithin_4 rfl rfl rfl ?_
  refine w_iload_n (nx := 6) C 1 dX8_isWithin_5 rfl rfl rfl ?_
  refine n_icmp_ge (tg := 13) (nx := 9) C dX8_isWithin_6 rfl rfl (by omega) (by omega) (fun h_2 => ?_) (fun h_2 => ?_)
  · refine w_iconst (nx := 14) C (nI 0) dX8_isWithin_13 rfl (by decide) ?_
    exact w_iret (ty := .boolean) C E dX8_isWithin_14 rfl rfl (Nat.le_refl _) (Nat.le_refl _) ⟨(congrArg (fun z => some (Value.int z)) (bC_0 (by first | assumption | omega))), rfl⟩
  · refine w_iconst (nx := 10) C (nI 1) dX8_isWithin_9 rfl (by decide) ?_
    refine w_goto (nx := 14) C dX8_isWithin_10 rfl ?_
    exact w_iret (ty := .boolean) C E dX8_isWithin_14 rfl rfl (Nat.le_refl _) (Nat.le_refl _) ⟨(congrArg (fun z => some (Value.int z)) (bC_1 (by first | assumption | omega))), rfl⟩
set_option maxHeartbeats 4000000 in
set_option maxRecDepth 100000 in
theorem c_X8_isWithin (l : Launch) (G : GG) (x : Int32) (L : Nat) (hL : L < 2 ^ 31) : MT l G yX8_isWithin cX8_isWithin 2 (some .boolean) 1 0 0 [.int x, .int (nI L)] [] (fun v9 ws9 => (v9 = some (.int (bC (∃ j, j < L ∧ x = nI j)))) ∧ ws9 = []) := by
  refine MT.of RX8 [(0, .int x), (1, .int (nI L))] (by decide +kernel) rfl rfl (Nat.le_of_ble_eq_true rfl) (fun κ C E hl9 hG9 hnm9 => ?_)
  subst hl9; subst hG9
  refine w_iload_n (nx := 1) C 0 dX8_isWithin_0 rfl rfl rfl ?_
  refine w_if_lt (tg := 13) (nx := 4) C dX8_isWithin_1 rfl rfl (fun h_1 => ?_) (fun h_1 => ?_)
  · refine w_iconst (nx := 14) C (nI 0) dX8_isWithin_13 rfl (by decide) ?_
    exact w_iret (ty := .boolean) C E dX8_isWithin_14 rfl rfl (Nat.le_refl _) (Nat.le_refl _) ⟨(congrArg (fun z => some (Value.int z)) (bC_0 (by rintro ⟨j, hj, rfl⟩; first | exact nI_pos (by omega) h_1 | exact absurd ((nI_leI hL (by omega)).mp h_2) (by omega)))), rfl⟩
  · refine w_iload_n (nx := 5) C 0 dX8_isWithin_4 rfl rfl rfl ?_
    refine w_iload_n (nx := 6) C 1 dX8_isWithin_5 rfl rfl rfl ?_
    refine w_icmp_ge (tg := 13) (nx := 9) C dX8_isWithin_6 rfl rfl (fun h_2 => ?_) (fun h_2 => ?_)
    · refine w_iconst (nx := 14) C (nI 0) dX8_isWithin_13 rfl (by decide) ?_
      exact w_iret (ty := .boolean) C E dX8_isWithin_14 rfl rfl (Nat.le_refl _) (Nat.le_refl _) ⟨(congrArg (fun z => some (Value.int z)) (bC_0 (by rintro ⟨j, hj, rfl⟩; first | exact nI_pos (by omega) h_1 | exact absurd ((nI_leI hL (by omega)).mp h_2) (by omega)))), rfl⟩
    · refine w_iconst (nx := 10) C (nI 1) dX8_isWithin_9 rfl (by decide) ?_
      refine w_goto (nx := 14) C dX8_isWithin_10 rfl ?_
      exact w_iret (ty := .boolean) C E dX8_isWithin_14 rfl rfl (Nat.le_refl _) (Nat.le_refl _) ⟨(congrArg (fun z => some (Value.int z)) (bC_1 (((pk_ix x hL).resolve_left h_1).resolve_left h_2))), rfl⟩
set_option maxHeartbeats 4000000 in
set_option maxRecDepth 100000 in
theorem c_X6_sizeOf (l : Launch) (G : GG) (h : Nat) (b0 : Nat) (b1 : Nat) (b2 : Nat) (fs : Nat → Int32) (fk : Nat → Int32) (fn : Nat → Int32) (τ : TB) (t : Nat) (hT : rT fs fk fn τ) (hw : wfT τ) (ht : t < 4) : MT l G yX6_sizeOf cX6_sizeOf 2 (some .int) 2 0 0 [.ref h, .int (nI t)] [(h, .inr (6, [.ref b0, .ref b1, .ref b2])), (b0, aI G 4 fs), (b1, aI G 48 fk), (b2, aI G 48 fn)] (fun v9 ws9 => v9 = some (.int (nI (zT τ t))) ∧ ws9 = [(h, .inr (6, [.ref b0, .ref b1, .ref b2])), (b0, aI G 4 fs), (b1, aI G 48 fk), (b2, aI G 48 fn)]) := by
  refine MT.of RX6 [(0, .ref h), (1, .int (nI t))] (by decide +kernel) rfl rfl (Nat.le_of_ble_eq_true rfl) (fun κ C E hl9 hG9 hnm9 => ?_)
  subst hl9; subst hG9
  refine w_iload_n (nx := 1) C 1 dX6_sizeOf_0 rfl rfl rfl ?_
  refine w_iconst (nx := 2) C (nI 4) dX6_sizeOf_1 rfl (by decide) ?_
  refine w_callN (nx := 5) (wr := [(h, .inr (6, [.ref b0, .ref b1, .ref b2])), (b0, aI (kG κ) 4 fs), (b1, aI (kG κ) 48 fk), (b2, aI (kG κ) 48 fn)]) (rest := []) C ms_X8_isWithin (c_X8_isWithin_n _ _ t 4 (by first | assumption | omega) (by first | assumption | omega)) dX6_sizeOf_2 rfl wx_X6_27 (pm_sel [0, 1, 2, 3] 4 (by decide +kernel) rfl rfl) rfl rfl (Nat.le_of_ble_eq_true rfl) (Nat.le_of_ble_eq_true rfl) (Nat.le_of_ble_eq_true rfl) (Nat.zero_le _) (Nat.zero_le _) (fun v9 w9 R_1 => ?_)
  obtain ⟨rfl, rfl⟩ := R_1
  show WW κ 0 0 [(h, .inr (6, [.ref b0, .ref b1, .ref b2])), (b0, aI (kG κ) 4 fs), (b1, aI (kG κ) 48 fk), (b2, aI (kG κ) 48 fn)] 5 [(0, .ref h), (1, .int (nI t))] [.int (bC (t < 4))]
  refine b_if_eq (tg := 17) (nx := 8) C dX6_sizeOf_5 rfl rfl (fun h_2 => ?_) (fun h_2 => ?_)
  · exact absurd ht h_2
  · refine w_aload_n (nx := 9) C 0 dX6_sizeOf_8 rfl rfl rfl ?_
    refine w_get (nx := 12) C fc6 (.ref b0) 0 0 dX6_sizeOf_9 rfl wl_X6_9 rfl (by decide) rfl rfl ?_
    refine w_iload_n (nx := 13) C 1 dX6_sizeOf_12 rfl rfl rfl ?_
    refine w_iald (nx := 14) C (nI (zT τ t)) 1 t dX6_sizeOf_13 rfl rfl (by decide) rfl (by omega) (rT_z hT ht) ?_
    refine w_goto (nx := 18) C dX6_sizeOf_14 rfl ?_
    exact w_iret (ty := .int) C E dX6_sizeOf_18 rfl rfl (Nat.le_refl _) (Nat.le_refl _) ⟨rfl, rfl⟩
set_option maxHeartbeats 4000000 in
set_option maxRecDepth 100000 in
theorem c_X6_numberAt (l : Launch) (G : GG) (h : Nat) (b0 : Nat) (b1 : Nat) (b2 : Nat) (fs : Nat → Int32) (fk : Nat → Int32) (fn : Nat → Int32) (τ : TB) (t : Nat) (j : Nat) (hT : rT fs fk fn τ) (hw : wfT τ) (ht : t < 4) (hj : j < zT τ t) : MT l G yX6_numberAt cX6_numberAt 3 (some .int) 3 0 0 [.ref h, .int (nI t), .int (nI j)] [(h, .inr (6, [.ref b0, .ref b1, .ref b2])), (b0, aI G 4 fs), (b1, aI G 48 fk), (b2, aI G 48 fn)] (fun v9 ws9 => v9 = some (.int (nI (nT τ t j))) ∧ ws9 = [(h, .inr (6, [.ref b0, .ref b1, .ref b2])), (b0, aI G 4 fs), (b1, aI G 48 fk), (b2, aI G 48 fn)]) := by
  refine MT.of RX6 [(0, .ref h), (1, .int (nI t)), (2, .int (nI j))] (by decide +kernel) rfl rfl (Nat.le_of_ble_eq_true rfl) (fun κ C E hl9 hG9 hnm9 => ?_)
  subst hl9; subst hG9
  have hz := (hw t ht).1
  refine w_iload_n (nx := 1) C 2 dX6_numberAt_0 rfl rfl rfl ?_
  refine w_aload_n (nx := 2) C 0 dX6_numberAt_1 rfl rfl rfl ?_
  refine w_iload_n (nx := 3) C 1 dX6_numberAt_2 rfl rfl rfl ?_
  refine w_callV (nx := 6) (wr := []) (rest := [.int (nI j)]) C mi_X6_sizeOf (c_X6_sizeOf _ _ h b0 b1 b2 fs fk fn τ t (by first | assumption | omega) (by first | assumption | omega) (by first | assumption | omega)) 0 dX6_numberAt_3 rfl wl_X6_35 rfl rfl rfl (pm_sel [0, 1, 2, 3] 4 (by decide +kernel) rfl rfl) rfl rfl (Nat.le_of_ble_eq_true rfl) (Nat.le_of_ble_eq_true rfl) (Nat.le_of_ble_eq_true rfl) (Nat.zero_le _) (Nat.zero_le _) (fun v9 w9 R_1 => ?_)
  obtain ⟨rfl, rfl⟩ := R_1
  show WW κ 0 0 [(h, .inr (6, [.ref b0, .ref b1, .ref b2])), (b0, aI (kG κ) 4 fs), (b1, aI (kG κ) 48 fk), (b2, aI (kG κ) 48 fn)] 6 [(0, .ref h), (1, .int (nI t)), (2, .int (nI j))] [.int (nI (zT τ t)), .int (nI j)]
  refine w_callN (nx := 9) (wr := [(h, .inr (6, [.ref b0, .ref b1, .ref b2])), (b0, aI (kG κ) 4 fs), (b1, aI (kG κ) 48 fk), (b2, aI (kG κ) 48 fn)]) (rest := []) C ms_X8_isWithin (c_X8_isWithin_n _ _ j (zT τ t) (by first | assumption | omega) (by first | assumption | omega)) dX6_numberAt_6 rfl wx_X6_27 (pm_sel [0, 1, 2, 3] 4 (by decide +kernel) rfl rfl) rfl rfl (Nat.le_of_ble_eq_true rfl) (Nat.le_of_ble_eq_true rfl) (Nat.le_of_ble_eq_true rfl) (Nat.zero_le _) (Nat.zero_le _) (fun v9 w9 R_2 => ?_)
  obtain ⟨rfl, rfl⟩ := R_2
  show WW κ 0 0 [(h, .inr (6, [.ref b0, .ref b1, .ref b2])), (b0, aI (kG κ) 4 fs), (b1, aI (kG κ) 48 fk), (b2, aI (kG κ) 48 fn)] 9 [(0, .ref h), (1, .int (nI t)), (2, .int (nI j))] [.int (bC (j < (zT τ t)))]
  refine b_if_eq (tg := 26) (nx := 12) C dX6_numberAt_9 rfl rfl (fun h_3 => ?_) (fun h_3 => ?_)
  · exact absurd hj h_3
  · refine w_aload_n (nx := 13) C 0 dX6_numberAt_12 rfl rfl rfl ?_
    refine w_get (nx := 16) C fc6 (.ref b2) 0 2 dX6_numberAt_13 rfl wl_X6_18 rfl (by decide) rfl rfl ?_
    refine w_iload_n (nx := 17) C 1 dX6_numberAt_16 rfl rfl rfl ?_
    refine w_bipush (nx := 19) C (nI 12) dX6_numberAt_17 rfl (by decide) ?_
    refine w_imul (nx := 20) C (nI (t * 12)) dX6_numberAt_19 rfl (pk_mul _ _) ?_
    refine w_iload_n (nx := 21) C 2 dX6_numberAt_20 rfl rfl rfl ?_
    refine w_iadd (nx := 22) C (nI (t * 12 + j)) dX6_numberAt_21 rfl (nI_add _ _) ?_
    refine w_iald (nx := 23) C (nI (nT τ t j)) 3 (t * 12 + j) dX6_numberAt_22 rfl rfl (by decide) rfl (by omega) (rT_n hT ht hj) ?_
    refine w_goto (nx := 27) C dX6_numberAt_23 rfl ?_
    exact w_iret (ty := .int) C E dX6_numberAt_27 rfl rfl (Nat.le_refl _) (Nat.le_refl _) ⟨rfl, rfl⟩
set_option maxHeartbeats 4000000 in
set_option maxRecDepth 100000 in
theorem c_X6_keyAt (l : Launch) (G : GG) (h : Nat) (b0 : Nat) (b1 : Nat) (b2 : Nat) (fs : Nat → Int32) (fk : Nat → Int32) (fn : Nat → Int32) (τ : TB) (t : Nat) (j : Nat) (hT : rT fs fk fn τ) (hw : wfT τ) (ht : t < 4) (hj : j < zT τ t) : MT l G yX6_keyAt cX6_keyAt 3 (some .int) 3 0 0 [.ref h, .int (nI t), .int (nI j)] [(h, .inr (6, [.ref b0, .ref b1, .ref b2])), (b0, aI G 4 fs), (b1, aI G 48 fk), (b2, aI G 48 fn)] (fun v9 ws9 => v9 = some (.int (nI (kT τ t j))) ∧ ws9 = [(h, .inr (6, [.ref b0, .ref b1, .ref b2])), (b0, aI G 4 fs), (b1, aI G 48 fk), (b2, aI G 48 fn)]) := by
  refine MT.of RX6 [(0, .ref h), (1, .int (nI t)), (2, .int (nI j))] (by decide +kernel) rfl rfl (Nat.le_of_ble_eq_true rfl) (fun κ C E hl9 hG9 hnm9 => ?_)
  subst hl9; subst hG9
  have hz := (hw t ht).1
  refine w_iload_n (nx := 1) C 2 dX6_keyAt_0 rfl rfl rfl ?_
  refine w_aload_n (nx := 2) C 0 dX6_keyAt_1 rfl rfl rfl ?_
  refine w_iload_n (nx := 3) C 1 dX6_keyAt_2 rfl rfl rfl ?_
  refine w_callV (nx := 6) (wr := []) (rest := [.int (nI j)]) C mi_X6_sizeOf (c_X6_sizeOf _ _ h b0 b1 b2 fs fk fn τ t (by first | assumption | omega) (by first | assumption | omega) (by first | assumption | omega)) 0 dX6_keyAt_3 rfl wl_X6_35 rfl rfl rfl (pm_sel [0, 1, 2, 3] 4 (by decide +kernel) rfl rfl) rfl rfl (Nat.le_of_ble_eq_true rfl) (Nat.le_of_ble_eq_true rfl) (Nat.le_of_ble_eq_true rfl) (Nat.zero_le _) (Nat.zero_le _) (fun v9 w9 R_1 => ?_)
  obtain ⟨rfl, rfl⟩ := R_1
  show WW κ 0 0 [(h, .inr (6, [.ref b0, .ref b1, .ref b2])), (b0, aI (kG κ) 4 fs), (b1, aI (kG κ) 48 fk), (b2, aI (kG κ) 48 fn)] 6 [(0, .ref h), (1, .int (nI t)), (2, .int (nI j))] [.int (nI (zT τ t)), .int (nI j)]
  refine w_callN (nx := 9) (wr := [(h, .inr (6, [.ref b0, .ref b1, .ref b2])), (b0, aI (kG κ) 4 fs), (b1, aI (kG κ) 48 fk), (b2, aI (kG κ) 48 fn)]) (rest := []) C ms_X8_isWithin (c_X8_isWithin_n _ _ j (zT τ t) (by first | assumption | omega) (by first | assumption | omega)) dX6_keyAt_6 rfl wx_X6_27 (pm_sel [0, 1, 2, 3] 4 (by decide +kernel) rfl rfl) rfl rfl (Nat.le_of_ble_eq_true rfl) (Nat.le_of_ble_eq_true rfl) (Nat.le_of_ble_eq_true rfl) (Nat.zero_le _) (Nat.zero_le _) (fun v9 w9 R_2 => ?_)
  obtain ⟨rfl, rfl⟩ := R_2
  show WW κ 0 0 [(h, .inr (6, [.ref b0, .ref b1, .ref b2])), (b0, aI (kG κ) 4 fs), (b1, aI (kG κ) 48 fk), (b2, aI (kG κ) 48 fn)] 9 [(0, .ref h), (1, .int (nI t)), (2, .int (nI j))] [.int (bC (j < (zT τ t)))]
  refine b_if_eq (tg := 26) (nx := 12) C dX6_keyAt_9 rfl rfl (fun h_3 => ?_) (fun h_3 => ?_)
  · exact absurd hj h_3
  · refine w_aload_n (nx := 13) C 0 dX6_keyAt_12 rfl rfl rfl ?_
    refine w_get (nx := 16) C fc6 (.ref b1) 0 1 dX6_keyAt_13 rfl wl_X6_15 rfl (by decide) rfl rfl ?_
    refine w_iload_n (nx := 17) C 1 dX6_keyAt_16 rfl rfl rfl ?_
    refine w_bipush (nx := 19) C (nI 12) dX6_keyAt_17 rfl (by decide) ?_
    refine w_imul (nx := 20) C (nI (t * 12)) dX6_keyAt_19 rfl (pk_mul _ _) ?_
    refine w_iload_n (nx := 21) C 2 dX6_keyAt_20 rfl rfl rfl ?_
    refine w_iadd (nx := 22) C (nI (t * 12 + j)) dX6_keyAt_21 rfl (nI_add _ _) ?_
    refine w_iald (nx := 23) C (nI (kT τ t j)) 2 (t * 12 + j) dX6_keyAt_22 rfl rfl (by decide) rfl (by omega) (rT_k hT ht hj) ?_
    refine w_goto (nx := 27) C dX6_keyAt_23 rfl ?_
    exact w_iret (ty := .int) C E dX6_keyAt_27 rfl rfl (Nat.le_refl _) (Nat.le_refl _) ⟨rfl, rfl⟩
set_option maxHeartbeats 4000000 in
set_option maxRecDepth 100000 in
theorem c_X6_placeOf (l : Launch) (G : GG) (h : Nat) (b0 : Nat) (b1 : Nat) (b2 : Nat) (fs : Nat → Int32) (fk : Nat → Int32) (fn : Nat → Int32) (τ : TB) (t : Nat) (ky : Nat) (hT : rT fs fk fn τ) (hw : wfT τ) (ht : t < 4) (hk : ky < 2 ^ 31) : MT l G yX6_placeOf cX6_placeOf 5 (some .int) 3 0 0 [.ref h, .int (nI t), .int (nI ky)] [(h, .inr (6, [.ref b0, .ref b1, .ref b2])), (b0, aI G 4 fs), (b1, aI G 48 fk), (b2, aI G 48 fn)] (fun v9 ws9 => (v9 = some (.int (nI (plT τ t ky))) ∧ ws9 = [(h, .inr (6, [.ref b0, .ref b1, .ref b2])), (b0, aI G 4 fs), (b1, aI G 48 fk), (b2, aI G 48 fn)] ∧ plT τ t ky < zT τ t) ∨ (v9 = some (.int (-1)) ∧ ws9 = [(h, .inr (6, [.ref b0, .ref b1, .ref b2])), (b0, aI G 4 fs), (b1, aI G 48 fk), (b2, aI G 48 fn)] ∧ plT τ t ky = zT τ t)) := by
  refine MT.of RX6 [(0, .ref h), (1, .int (nI t)), (2, .int (nI ky))] (by decide +kernel) rfl rfl (Nat.le_of_ble_eq_true rfl) (fun κ C E hl9 hG9 hnm9 => ?_)
  subst hl9; subst hG9
  have hz := (hw t ht).1
  refine w_aload_n (nx := 1) C 0 dX6_placeOf_0 rfl rfl rfl ?_
  refine w_iload_n (nx := 2) C 1 dX6_placeOf_1 rfl rfl rfl ?_
  refine w_callV (nx := 5) (wr := []) (rest := []) C mi_X6_sizeOf (c_X6_sizeOf _ _ h b0 b1 b2 fs fk fn τ t (by first | assumption | omega) (by first | assumption | omega) (by first | assumption | omega)) 0 dX6_placeOf_2 rfl wl_X6_35 rfl rfl rfl (pm_sel [0, 1, 2, 3] 4 (by decide +kernel) rfl rfl) rfl rfl (Nat.le_of_ble_eq_true rfl) (Nat.le_of_ble_eq_true rfl) (Nat.le_of_ble_eq_true rfl) (Nat.zero_le _) (Nat.zero_le _) (fun v9 w9 R_1 => ?_)
  obtain ⟨rfl, rfl⟩ := R_1
  show WW κ 0 0 [(h, .inr (6, [.ref b0, .ref b1, .ref b2])), (b0, aI (kG κ) 4 fs), (b1, aI (kG κ) 48 fk), (b2, aI (kG κ) 48 fn)] 5 [(0, .ref h), (1, .int (nI t)), (2, .int (nI ky))] [.int (nI (zT τ t))]
  refine w_istore_n (nx := 6) (lo2 := [(3, .int (nI (zT τ t))), (0, .ref h), (1, .int (nI t)), (2, .int (nI ky))]) C dX6_placeOf_5 rfl rfl (by decide) rfl ?_
  refine w_iconst (nx := 7) C (nI 0) dX6_placeOf_6 rfl (by decide) ?_
  refine w_istore (nx := 9) (lo2 := [(4, .int (nI 0)), (3, .int (nI (zT τ t))), (0, .ref h), (1, .int (nI t)), (2, .int (nI ky))]) C dX6_placeOf_7 rfl (by decide) rfl ?_
  have LP_2 : ∀ (N9_9 : Nat) (j : Nat), (j ≤ zT τ t) → (∀ i, i < j → ¬ kT τ t i = ky) → (zT τ t - j) < N9_9 → WW κ 0 0 [(h, .inr (6, [.ref b0, .ref b1, .ref b2])), (b0, aI (kG κ) 4 fs), (b1, aI (kG κ) 48 fk), (b2, aI (kG κ) 48 fn)] 9 [(0, .ref h), (1, .int (nI t)), (2, .int (nI ky)), (3, .int (nI (zT τ t))), (4, .int (nI j))] [] := by
    intro N9_9
    induction N9_9 with
    | zero => intro j hj hn hm9_9; exact absurd hm9_9 (Nat.not_lt_zero _)
    | succ N9_9 ih9_9 =>
      intro j hj hn hm9_9
      refine w_iload (nx := 11) C 4 dX6_placeOf_9 rfl rfl ?_
      refine w_iload_n (nx := 12) C 3 dX6_placeOf_11 rfl rfl rfl ?_
      refine n_icmp_ge (tg := 40) (nx := 15) C dX6_placeOf_12 rfl rfl (by omega) (by omega) (fun h_3 => ?_) (fun h_3 => ?_)
      · refine w_iconst (nx := 41) C (-1) dX6_placeOf_40 rfl (by decide) ?_
        exact w_iret (ty := .int) C E dX6_placeOf_41 rfl rfl (Nat.le_refl _) (Nat.le_refl _) (Or.inr (⟨rfl, rfl, (fpl_no _ (fun i hi => hn i (by omega)))⟩))
      · refine w_aload_n (nx := 16) C 0 dX6_placeOf_15 rfl rfl rfl ?_
        refine w_get (nx := 19) C fc6 (.ref b1) 0 1 dX6_placeOf_16 rfl wl_X6_15 rfl (by decide) rfl rfl ?_
        refine w_iload_n (nx := 20) C 1 dX6_placeOf_19 rfl rfl rfl ?_
        refine w_bipush (nx := 22) C (nI 12) dX6_placeOf_20 rfl (by decide) ?_
        refine w_imul (nx := 23) C (nI (t * 12)) dX6_placeOf_22 rfl (pk_mul _ _) ?_
        refine w_iload (nx := 25) C 4 dX6_placeOf_23 rfl rfl ?_
        refine w_iadd (nx := 26) C (nI (t * 12 + j)) dX6_placeOf_25 rfl (nI_add _ _) ?_
        refine w_iald (nx := 27) C (nI (kT τ t j)) 2 (t * 12 + j) dX6_placeOf_26 rfl rfl (by decide) rfl (by omega) (rT_k hT ht (by omega)) ?_
        refine w_iload_n (nx := 28) C 2 dX6_placeOf_27 rfl rfl rfl ?_
        have hkb := ((hw t ht).2 j (by omega)).1
        refine n_icmp_ne (tg := 34) (nx := 31) C dX6_placeOf_28 rfl rfl (by omega) (by omega) (fun h_4 => ?_) (fun h_4 => ?_)
        · refine w_iinc (nx := 37) (lo2 := [(4, .int (nI (j + 1))), (0, .ref h), (1, .int (nI t)), (2, .int (nI ky)), (3, .int (nI (zT τ t)))]) C (nI (j + 1)) 4 dX6_placeOf_34 rfl rfl (nI_add _ _) (by decide) rfl ?_
          refine w_goto (nx := 9) C dX6_placeOf_37 rfl ?_
          refine ww_lo [1, 2, 3, 4, 0] (lo' := [(0, .ref h), (1, .int (nI t)), (2, .int (nI ky)), (3, .int (nI (zT τ t))), (4, .int (nI (j + 1)))]) rfl ?_
          exact ih9_9 (j + 1) (by first | assumption | omega) (fun i hi => (Nat.lt_or_ge i j).elim (fun q => hn i q) (fun q => by have e9 : i = j := (by omega); subst e9; assumption)) (by omega)
        · refine w_iload (nx := 33) C 4 dX6_placeOf_31 rfl rfl ?_
          exact w_iret (ty := .int) C E dX6_placeOf_33 rfl rfl (Nat.le_refl _) (Nat.le_refl _) (Or.inl ⟨(congrArg (fun z => some (Value.int z)) (congrArg nI (fpl_at (zT τ t) (by omega) (by assumption) hn).symm)), rfl, (by have e9 := fpl_at (K := kT τ t) (key := ky) (zT τ t) (by omega) (by assumption) hn; show fpl _ _ _ < _; rw [e9]; omega)⟩)
  refine ww_lo [2, 3, 4, 1, 0] (lo' := [(0, .ref h), (1, .int (nI t)), (2, .int (nI ky)), (3, .int (nI (zT τ t))), (4, .int (nI 0))]) rfl ?_
  exact LP_2 _ 0 (Nat.zero_le _) (fun i hi => absurd hi (Nat.not_lt_zero _)) (Nat.lt_succ_self _)
set_option maxHeartbeats 4000000 in
set_option maxRecDepth 100000 in
theorem c_X6_weightOf (l : Launch) (G : GG) (h : Nat) (b0 : Nat) (b1 : Nat) (b2 : Nat) (fs : Nat → Int32) (fk : Nat → Int32) (fn : Nat → Int32) (τ : TB) (kd : Nat) (t : Nat) (ky : Nat) (nm : Nat) (hT : rT fs fk fn τ) (hw : wfT τ) (ht : t < 4) (hkd : kd < 3) (hk : ky < 100) (hnm : nm < 1000) : MT l G yX6_weightOf cX6_weightOf 7 (some .int) 4 0 0 [.ref h, .int (nI kd), .int (nI t), .int (nI ky), .int (nI nm)] [(h, .inr (6, [.ref b0, .ref b1, .ref b2])), (b0, aI G 4 fs), (b1, aI G 48 fk), (b2, aI G 48 fn)] (fun v9 ws9 => (∃ (w : Nat), v9 = some (.int (nI w)) ∧ ws9 = [(h, .inr (6, [.ref b0, .ref b1, .ref b2])), (b0, aI G 4 fs), (b1, aI G 48 fk), (b2, aI G 48 fn)] ∧ wgt τ kd t ky nm = some w) ∨ (v9 = some (.int (-1)) ∧ ws9 = [(h, .inr (6, [.ref b0, .ref b1, .ref b2])), (b0, aI G 4 fs), (b1, aI G 48 fk), (b2, aI G 48 fn)] ∧ wgt τ kd t ky nm = none)) := by
  refine MT.of RX6 [(0, .ref h), (1, .int (nI kd)), (2, .int (nI t)), (3, .int (nI ky)), (4, .int (nI nm))] (by decide +kernel) rfl rfl (Nat.le_of_ble_eq_true rfl) (fun κ C E hl9 hG9 hnm9 => ?_)
  subst hl9; subst hG9
  have hz := (hw t ht).1
  have hzn : ∀ j, j < zT τ t → nT τ t j < 1000 := fun j hj => ((hw t ht).2 j hj).2
  refine w_aload_n (nx := 1) C 0 dX6_weightOf_0 rfl rfl rfl ?_
  refine w_iload_n (nx := 2) C 2 dX6_weightOf_1 rfl rfl rfl ?_
  refine w_iload_n (nx := 3) C 3 dX6_weightOf_2 rfl rfl rfl ?_
  refine w_callV (nx := 6) (wr := []) (rest := []) C mi_X6_placeOf (c_X6_placeOf _ _ h b0 b1 b2 fs fk fn τ t ky (by first | assumption | omega) (by first | assumption | omega) (by first | assumption | omega) (by first | assumption | omega)) 0 dX6_weightOf_3 rfl wl_X6_39 rfl rfl rfl (pm_sel [0, 1, 2, 3] 4 (by decide +kernel) rfl rfl) rfl rfl (Nat.le_of_ble_eq_true rfl) (Nat.le_of_ble_eq_true rfl) (Nat.le_of_ble_eq_true rfl) (Nat.zero_le _) (Nat.zero_le _) (fun v9 w9 R_1 => ?_)
  rcases R_1 with ⟨rfl, rfl, hp_2⟩ | ⟨rfl, rfl, hp_3⟩
  · show WW κ 0 0 [(h, .inr (6, [.ref b0, .ref b1, .ref b2])), (b0, aI (kG κ) 4 fs), (b1, aI (kG κ) 48 fk), (b2, aI (kG κ) 48 fn)] 6 [(0, .ref h), (1, .int (nI kd)), (2, .int (nI t)), (3, .int (nI ky)), (4, .int (nI nm))] [.int (nI (plT τ t ky))]
    refine w_istore (nx := 8) (lo2 := [(5, .int (nI (plT τ t ky))), (0, .ref h), (1, .int (nI kd)), (2, .int (nI t)), (3, .int (nI ky)), (4, .int (nI nm))]) C dX6_weightOf_6 rfl (by decide) rfl ?_
    refine w_iload_n (nx := 9) C 2 dX6_weightOf_8 rfl rfl rfl ?_
    refine n_if_ne (tg := 35) (nx := 12) C dX6_weightOf_9 rfl rfl (by omega) (fun h_4 => ?_) (fun h_4 => ?_)
    · refine w_iload (nx := 37) C 0 dX6_weightOf_35 rfl rfl ?_
      refine w_iconst (nx := 38) C (-1) dX6_weightOf_37 rfl (by decide) ?_
      refine w_icmp_ne (tg := 43) (nx := 41) C dX6_weightOf_38 rfl rfl (fun _ => ?_) (fun q9 => absurd q9 (nI_nneg (by omega) (by decide)))
      refine w_iload_n (nx := 44) C 2 dX6_weightOf_43 rfl rfl rfl ?_
      refine w_iconst (nx := 45) C (nI 2) dX6_weightOf_44 rfl (by decide) ?_
      refine n_icmp_ne (tg := 56) (nx := 48) C dX6_weightOf_45 rfl rfl (by omega) (by omega) (fun h_6 => ?_) (fun h_6 => ?_)
      · refine w_aload_n (nx := 57) C 1 dX6_weightOf_56 rfl rfl rfl ?_
        refine w_iload_n (nx := 58) C 3 dX6_weightOf_57 rfl rfl rfl ?_
        refine w_iload (nx := 60) C 0 dX6_weightOf_58 rfl rfl ?_
        refine w_callV (nx := 63) (wr := []) (rest := []) C mi_X6_numberAt (c_X6_numberAt _ _ h b0 b1 b2 fs fk fn τ t (plT τ t ky) (by first | assumption | omega) (by first | assumption | omega) (by first | assumption | omega) (by first | assumption | omega)) 0 dX6_weightOf_60 rfl wl_X6_31 rfl rfl rfl (pm_sel [0, 1, 2, 3] 4 (by decide +kernel) rfl rfl) rfl rfl (Nat.le_of_ble_eq_true rfl) (Nat.le_of_ble_eq_true rfl) (Nat.le_of_ble_eq_true rfl) (Nat.zero_le _) (Nat.zero_le _) (fun v9 w9 R_7 => ?_)
        obtain ⟨rfl, rfl⟩ := R_7
        show WW κ 0 0 [(h, .inr (6, [.ref b0, .ref b1, .ref b2])), (b0, aI (kG κ) 4 fs), (b1, aI (kG κ) 48 fk), (b2, aI (kG κ) 48 fn)] 63 [(5, .int (nI (plT τ t ky))), (0, .ref h), (1, .int (nI kd)), (2, .int (nI t)), (3, .int (nI ky)), (4, .int (nI nm))] [.int (nI (nT τ t (plT τ t ky)))]
        have hpn := hzn _ (by assumption)
        refine w_iload (nx := 65) C 5 dX6_weightOf_63 rfl rfl ?_
        refine w_iadd (nx := 66) C (nI (nT τ t (plT τ t ky) + nm)) dX6_weightOf_65 rfl (nI_add _ _) ?_
        refine w_istore (nx := 68) (lo2 := [(6, .int (nI (nT τ t (plT τ t ky) + nm))), (5, .int (nI (plT τ t ky))), (0, .ref h), (1, .int (nI kd)), (2, .int (nI t)), (3, .int (nI ky)), (4, .int (nI nm))]) C dX6_weightOf_66 rfl (by decide) rfl ?_
        refine w_iload (nx := 70) C 0 dX6_weightOf_68 rfl rfl ?_
        refine w_sipush (nx := 73) C (nI 1000) dX6_weightOf_70 rfl (by decide) ?_
        refine n_icmp_ge (tg := 81) (nx := 76) C dX6_weightOf_73 rfl rfl (by omega) (by omega) (fun h_8 => ?_) (fun h_8 => ?_)
        · refine w_iconst (nx := 82) C (-1) dX6_weightOf_81 rfl (by decide) ?_
          exact w_iret (ty := .int) C E dX6_weightOf_82 rfl rfl (Nat.le_refl _) (Nat.le_refl _) (Or.inr (⟨rfl, rfl, (by unfold wgt; (repeat (first | rw [if_pos (by omega)] | rw [if_neg (by omega)])))⟩))
        · refine w_iload (nx := 78) C 0 dX6_weightOf_76 rfl rfl ?_
          refine w_goto (nx := 82) C dX6_weightOf_78 rfl ?_
          exact w_iret (ty := .int) C E dX6_weightOf_82 rfl rfl (Nat.le_refl _) (Nat.le_refl _) (Or.inl ⟨_, rfl, rfl, (by unfold wgt; (repeat (first | rw [if_pos (by omega)] | rw [if_neg (by omega)])))⟩)
      · refine w_aload_n (nx := 49) C 1 dX6_weightOf_48 rfl rfl rfl ?_
        refine w_iload_n (nx := 50) C 3 dX6_weightOf_49 rfl rfl rfl ?_
        refine w_iload (nx := 52) C 0 dX6_weightOf_50 rfl rfl ?_
        refine w_callV (nx := 55) (wr := []) (rest := []) C mi_X6_numberAt (c_X6_numberAt _ _ h b0 b1 b2 fs fk fn τ t (plT τ t ky) (by first | assumption | omega) (by first | assumption | omega) (by first | assumption | omega) (by first | assumption | omega)) 0 dX6_weightOf_52 rfl wl_X6_31 rfl rfl rfl (pm_sel [0, 1, 2, 3] 4 (by decide +kernel) rfl rfl) rfl rfl (Nat.le_of_ble_eq_true rfl) (Nat.le_of_ble_eq_true rfl) (Nat.le_of_ble_eq_true rfl) (Nat.zero_le _) (Nat.zero_le _) (fun v9 w9 R_9 => ?_)
        obtain ⟨rfl, rfl⟩ := R_9
        show WW κ 0 0 [(h, .inr (6, [.ref b0, .ref b1, .ref b2])), (b0, aI (kG κ) 4 fs), (b1, aI (kG κ) 48 fk), (b2, aI (kG κ) 48 fn)] 55 [(5, .int (nI (plT τ t ky))), (0, .ref h), (1, .int (nI kd)), (2, .int (nI t)), (3, .int (nI ky)), (4, .int (nI nm))] [.int (nI (nT τ t (plT τ t ky)))]
        exact w_iret (ty := .int) C E dX6_weightOf_55 rfl rfl (Nat.le_refl _) (Nat.le_refl _) (Or.inl ⟨_, rfl, rfl, (by unfold wgt; (repeat (first | rw [if_pos (by omega)] | rw [if_neg (by omega)])))⟩)
    · refine w_iload (nx := 14) C 0 dX6_weightOf_12 rfl rfl ?_
      refine w_iconst (nx := 15) C (-1) dX6_weightOf_14 rfl (by decide) ?_
      refine w_icmp_ne (tg := 33) (nx := 18) C dX6_weightOf_15 rfl rfl (fun _ => ?_) (fun q9 => absurd q9 (nI_nneg (by omega) (by decide)))
      refine w_iconst (nx := 34) C (-1) dX6_weightOf_33 rfl (by decide) ?_
      exact w_iret (ty := .int) C E dX6_weightOf_34 rfl rfl (Nat.le_refl _) (Nat.le_refl _) (Or.inr (⟨rfl, rfl, (by unfold wgt; (repeat (first | rw [if_pos (by omega)] | rw [if_neg (by omega)])))⟩))
  · show WW κ 0 0 [(h, .inr (6, [.ref b0, .ref b1, .ref b2])), (b0, aI (kG κ) 4 fs), (b1, aI (kG κ) 48 fk), (b2, aI (kG κ) 48 fn)] 6 [(0, .ref h), (1, .int (nI kd)), (2, .int (nI t)), (3, .int (nI ky)), (4, .int (nI nm))] [.int (-1)]
    refine w_istore (nx := 8) (lo2 := [(5, .int (-1)), (0, .ref h), (1, .int (nI kd)), (2, .int (nI t)), (3, .int (nI ky)), (4, .int (nI nm))]) C dX6_weightOf_6 rfl (by decide) rfl ?_
    refine w_iload_n (nx := 9) C 2 dX6_weightOf_8 rfl rfl rfl ?_
    refine n_if_ne (tg := 35) (nx := 12) C dX6_weightOf_9 rfl rfl (by omega) (fun h_11 => ?_) (fun h_11 => ?_)
    · refine w_iload (nx := 37) C 0 dX6_weightOf_35 rfl rfl ?_
      refine w_iconst (nx := 38) C (-1) dX6_weightOf_37 rfl (by decide) ?_
      refine w_icmp_ne (tg := 43) (nx := 41) C dX6_weightOf_38 rfl rfl (fun q9 => absurd (by decide) q9) (fun _ => ?_)
      refine w_iconst (nx := 42) C (-1) dX6_weightOf_41 rfl (by decide) ?_
      exact w_iret (ty := .int) C E dX6_weightOf_42 rfl rfl (Nat.le_refl _) (Nat.le_refl _) (Or.inr (⟨rfl, rfl, (by unfold wgt; (repeat (first | rw [if_pos (by omega)] | rw [if_neg (by omega)])))⟩))
    · refine w_iload (nx := 14) C 0 dX6_weightOf_12 rfl rfl ?_
      refine w_iconst (nx := 15) C (-1) dX6_weightOf_14 rfl (by decide) ?_
      refine w_icmp_ne (tg := 33) (nx := 18) C dX6_weightOf_15 rfl rfl (fun q9 => absurd (by decide) q9) (fun _ => ?_)
      refine w_aload_n (nx := 19) C 1 dX6_weightOf_18 rfl rfl rfl ?_
      refine w_iload_n (nx := 20) C 3 dX6_weightOf_19 rfl rfl rfl ?_
      refine w_callV (nx := 23) (wr := []) (rest := []) C mi_X6_sizeOf (c_X6_sizeOf _ _ h b0 b1 b2 fs fk fn τ t (by first | assumption | omega) (by first | assumption | omega) (by first | assumption | omega)) 0 dX6_weightOf_20 rfl wl_X6_35 rfl rfl rfl (pm_sel [0, 1, 2, 3] 4 (by decide +kernel) rfl rfl) rfl rfl (Nat.le_of_ble_eq_true rfl) (Nat.le_of_ble_eq_true rfl) (Nat.le_of_ble_eq_true rfl) (Nat.zero_le _) (Nat.zero_le _) (fun v9 w9 R_14 => ?_)
      obtain ⟨rfl, rfl⟩ := R_14
      show WW κ 0 0 [(h, .inr (6, [.ref b0, .ref b1, .ref b2])), (b0, aI (kG κ) 4 fs), (b1, aI (kG κ) 48 fk), (b2, aI (kG κ) 48 fn)] 23 [(5, .int (-1)), (0, .ref h), (1, .int (nI kd)), (2, .int (nI t)), (3, .int (nI ky)), (4, .int (nI nm))] [.int (nI (zT τ t))]
      refine w_bipush (nx := 25) C (nI 12) dX6_weightOf_23 rfl (by decide) ?_
      refine n_icmp_ge (tg := 33) (nx := 28) C dX6_weightOf_25 rfl rfl (by omega) (by omega) (fun h_15 => ?_) (fun h_15 => ?_)
      · refine w_iconst (nx := 34) C (-1) dX6_weightOf_33 rfl (by decide) ?_
        exact w_iret (ty := .int) C E dX6_weightOf_34 rfl rfl (Nat.le_refl _) (Nat.le_refl _) (Or.inr (⟨rfl, rfl, (by unfold wgt; (repeat (first | rw [if_pos (by omega)] | rw [if_neg (by omega)])))⟩))
      · refine w_iload (nx := 30) C 5 dX6_weightOf_28 rfl rfl ?_
        refine w_goto (nx := 34) C dX6_weightOf_30 rfl ?_
        exact w_iret (ty := .int) C E dX6_weightOf_34 rfl rfl (Nat.le_refl _) (Nat.le_refl _) (Or.inl ⟨_, rfl, rfl, (by unfold wgt; (repeat (first | rw [if_pos (by omega)] | rw [if_neg (by omega)])))⟩)
set_option maxHeartbeats 4000000 in
set_option maxRecDepth 100000 in
theorem c_X6_insert (l : Launch) (G : GG) (h : Nat) (b0 : Nat) (b1 : Nat) (b2 : Nat) (fs : Nat → Int32) (fk : Nat → Int32) (fn : Nat → Int32) (τ : TB) (t : Nat) (ky : Nat) (nm : Nat) (hT : rT fs fk fn τ) (hw : wfT τ) (ht : t < 4) (hk : ky < 100) (hz : zT τ t < 12) : MT l G yX6_insert cX6_insert 6 none 2 0 0 [.ref h, .int (nI t), .int (nI ky), .int (nI nm)] [(h, .inr (6, [.ref b0, .ref b1, .ref b2])), (b0, aI G 4 fs), (b1, aI G 48 fk), (b2, aI G 48 fn)] (fun v9 ws9 => ∃ (fs2 : Nat → Int32) (fk2 : Nat → Int32) (fn2 : Nat → Int32), v9 = none ∧ ws9 = [(h, .inr (6, [.ref b0, .ref b1, .ref b2])), (b0, aI G 4 fs2), (b1, aI G 48 fk2), (b2, aI G 48 fn2)] ∧ rT fs2 fk2 fn2 (layT τ t ky nm)) := by
  refine MT.of RX6 [(0, .ref h), (1, .int (nI t)), (2, .int (nI ky)), (3, .int (nI nm))] (by decide +kernel) rfl rfl (Nat.le_of_ble_eq_true rfl) (fun κ C E hl9 hG9 hnm9 => ?_)
  subst hl9; subst hG9
  refine w_iload_n (nx := 1) C 1 dX6_insert_0 rfl rfl rfl ?_
  refine w_iconst (nx := 2) C (nI 4) dX6_insert_1 rfl (by decide) ?_
  refine w_callN (nx := 5) (wr := [(h, .inr (6, [.ref b0, .ref b1, .ref b2])), (b0, aI (kG κ) 4 fs), (b1, aI (kG κ) 48 fk), (b2, aI (kG κ) 48 fn)]) (rest := []) C ms_X8_isWithin (c_X8_isWithin_n _ _ t 4 (by first | assumption | omega) (by first | assumption | omega)) dX6_insert_2 rfl wx_X6_27 (pm_sel [0, 1, 2, 3] 4 (by decide +kernel) rfl rfl) rfl rfl (Nat.le_of_ble_eq_true rfl) (Nat.le_of_ble_eq_true rfl) (Nat.le_of_ble_eq_true rfl) (Nat.zero_le _) (Nat.zero_le _) (fun v9 w9 R_1 => ?_)
  obtain ⟨rfl, rfl⟩ := R_1
  show WW κ 0 0 [(h, .inr (6, [.ref b0, .ref b1, .ref b2])), (b0, aI (kG κ) 4 fs), (b1, aI (kG κ) 48 fk), (b2, aI (kG κ) 48 fn)] 5 [(0, .ref h), (1, .int (nI t)), (2, .int (nI ky)), (3, .int (nI nm))] [.int (bC (t < 4))]
  refine b_if_eq (tg := 19) (nx := 8) C dX6_insert_5 rfl rfl (fun h_2 => ?_) (fun h_2 => ?_)
  · exact absurd ht h_2
  · refine w_aload_n (nx := 9) C 0 dX6_insert_8 rfl rfl rfl ?_
    refine w_get (nx := 12) C fc6 (.ref b0) 0 0 dX6_insert_9 rfl wl_X6_9 rfl (by decide) rfl rfl ?_
    refine w_iload_n (nx := 13) C 1 dX6_insert_12 rfl rfl rfl ?_
    refine w_iald (nx := 14) C (nI (zT τ t)) 1 t dX6_insert_13 rfl rfl (by decide) rfl (by omega) (rT_z hT ht) ?_
    refine w_bipush (nx := 16) C (nI 12) dX6_insert_14 rfl (by decide) ?_
    refine n_icmp_lt (tg := 20) (nx := 19) C dX6_insert_16 rfl rfl (by omega) (by omega) (fun h_3 => ?_) (fun h_3 => ?_)
    · refine w_iload_n (nx := 21) C 1 dX6_insert_20 rfl rfl rfl ?_
      refine w_bipush (nx := 23) C (nI 12) dX6_insert_21 rfl (by decide) ?_
      refine w_imul (nx := 24) C (nI (t * 12)) dX6_insert_23 rfl (pk_mul _ _) ?_
      refine w_istore (nx := 26) (lo2 := [(4, .int (nI (t * 12))), (0, .ref h), (1, .int (nI t)), (2, .int (nI ky)), (3, .int (nI nm))]) C dX6_insert_24 rfl (by decide) rfl ?_
      refine w_iload (nx := 28) C 0 dX6_insert_26 rfl rfl ?_
      refine w_aload_n (nx := 29) C 1 dX6_insert_28 rfl rfl rfl ?_
      refine w_get (nx := 32) C fc6 (.ref b0) 0 0 dX6_insert_29 rfl wl_X6_9 rfl (by decide) rfl rfl ?_
      refine w_iload_n (nx := 33) C 2 dX6_insert_32 rfl rfl rfl ?_
      refine w_iald (nx := 34) C (nI (zT τ t)) 1 t dX6_insert_33 rfl rfl (by decide) rfl (by omega) (rT_z hT ht) ?_
      refine w_iadd (nx := 35) C (nI (t * 12 + zT τ t)) dX6_insert_34 rfl (nI_add _ _) ?_
      refine w_istore (nx := 37) (lo2 := [(5, .int (nI (t * 12 + zT τ t))), (4, .int (nI (t * 12))), (0, .ref h), (1, .int (nI t)), (2, .int (nI ky)), (3, .int (nI nm))]) C dX6_insert_35 rfl (by decide) rfl ?_
      have LP_4 : ∀ (N9_37 : Nat) (fk2 : Nat → Int32) (fn2 : Nat → Int32) (p : Nat), (p ≤ zT τ t) → (∀ q, p ≤ q → q < zT τ t → ky < kT τ t q) → (∀ i, (i < t * 12 + p ∨ t * 12 + 12 ≤ i) → fk2 i = fk i) → (∀ j, p < j → j ≤ zT τ t → fk2 (t * 12 + j) = fk (t * 12 + (j - 1))) → (∀ i, (i < t * 12 + p ∨ t * 12 + 12 ≤ i) → fn2 i = fn i) → (∀ j, p < j → j ≤ zT τ t → fn2 (t * 12 + j) = fn (t * 12 + (j - 1))) → p < N9_37 → WW κ 0 0 [(h, .inr (6, [.ref b0, .ref b1, .ref b2])), (b0, aI (kG κ) 4 fs), (b1, aI (kG κ) 48 fk2), (b2, aI (kG κ) 48 fn2)] 37 [(0, .ref h), (1, .int (nI t)), (2, .int (nI ky)), (3, .int (nI nm)), (4, .int (nI (t * 12))), (5, .int (nI (t * 12 + p)))] [] := by
        intro N9_37
        induction N9_37 with
        | zero => intro fk2 fn2 p hp hgt hk1 hk2 hn1 hn2 hm9_37; exact absurd hm9_37 (Nat.not_lt_zero _)
        | succ N9_37 ih9_37 =>
          intro fk2 fn2 p hp hgt hk1 hk2 hn1 hn2 hm9_37
          refine w_iload (nx := 39) C 5 dX6_insert_37 rfl rfl ?_
          refine w_iload (nx := 41) C 4 dX6_insert_39 rfl rfl ?_
          refine n_icmp_le (tg := 95) (nx := 44) C dX6_insert_41 rfl rfl (by omega) (by omega) (fun h_5 => ?_) (fun h_5 => ?_)
          · refine w_aload_n (nx := 96) C 0 dX6_insert_95 rfl rfl rfl ?_
            refine w_get (nx := 99) C fc6 (.ref b1) 0 1 dX6_insert_96 rfl wl_X6_15 rfl (by decide) rfl rfl ?_
            refine w_iload (nx := 101) C 5 dX6_insert_99 rfl rfl ?_
            refine w_iload_n (nx := 102) C 2 dX6_insert_101 rfl rfl rfl ?_
            refine w_iast (nx := 103) (ws2 := [(h, .inr (6, [.ref b0, .ref b1, .ref b2])), (b0, aI (kG κ) 4 fs), (b1, aI (kG κ) 48 (upd fk2 (t * 12 + p) (nI ky))), (b2, aI (kG κ) 48 fn2)]) C 2 (t * 12 + p) dX6_insert_102 rfl rfl (by decide) rfl (by omega) rfl ?_
            refine w_aload_n (nx := 104) C 0 dX6_insert_103 rfl rfl rfl ?_
            refine w_get (nx := 107) C fc6 (.ref b2) 0 2 dX6_insert_104 rfl wl_X6_18 rfl (by decide) rfl rfl ?_
            refine w_iload (nx := 109) C 5 dX6_insert_107 rfl rfl ?_
            refine w_iload_n (nx := 110) C 3 dX6_insert_109 rfl rfl rfl ?_
            refine w_iast (nx := 111) (ws2 := [(h, .inr (6, [.ref b0, .ref b1, .ref b2])), (b0, aI (kG κ) 4 fs), (b1, aI (kG κ) 48 (upd fk2 (t * 12 + p) (nI ky))), (b2, aI (kG κ) 48 (upd fn2 (t * 12 + p) (nI nm)))]) C 3 (t * 12 + p) dX6_insert_110 rfl rfl (by decide) rfl (by omega) rfl ?_
            refine w_aload_n (nx := 112) C 0 dX6_insert_111 rfl rfl rfl ?_
            refine w_get (nx := 115) C fc6 (.ref b0) 0 0 dX6_insert_112 rfl wl_X6_9 rfl (by decide) rfl rfl ?_
            refine w_iload_n (nx := 116) C 1 dX6_insert_115 rfl rfl rfl ?_
            refine w_dup2 (nx := 117) C dX6_insert_116 rfl rfl rfl ?_
            refine w_iald (nx := 118) C (nI (zT τ t)) 1 t dX6_insert_117 rfl rfl (by decide) rfl (by omega) (rT_z hT ht) ?_
            refine w_iconst (nx := 119) C (nI 1) dX6_insert_118 rfl (by decide) ?_
            refine w_iadd (nx := 120) C (nI (zT τ t + 1)) dX6_insert_119 rfl (nI_add _ _) ?_
            refine w_iast (nx := 121) (ws2 := [(h, .inr (6, [.ref b0, .ref b1, .ref b2])), (b0, aI (kG κ) 4 (upd fs t (nI (zT τ t + 1)))), (b1, aI (kG κ) 48 (upd fk2 (t * 12 + p) (nI ky))), (b2, aI (kG κ) 48 (upd fn2 (t * 12 + p) (nI nm)))]) C 1 t dX6_insert_120 rfl rfl (by decide) rfl (by omega) rfl ?_
            exact w_vret C E dX6_insert_121 rfl (Nat.le_refl _) (Nat.le_refl _) ⟨_, _, _, rfl, rfl, (rT_lay (p := p) hT hw ht hz (ipos_eq _ hp hgt (by omega)).symm hk1 hk2 hn1 hn2)⟩
          · refine w_aload_n (nx := 45) C 0 dX6_insert_44 rfl rfl rfl ?_
            refine w_get (nx := 48) C fc6 (.ref b1) 0 1 dX6_insert_45 rfl wl_X6_15 rfl (by decide) rfl rfl ?_
            refine w_iload (nx := 50) C 5 dX6_insert_48 rfl rfl ?_
            refine w_iconst (nx := 51) C (nI 1) dX6_insert_50 rfl (by decide) ?_
            refine w_isub (nx := 52) C (nI (t * 12 + p - 1)) dX6_insert_51 rfl (pk_sub (by omega)) ?_
            refine w_iald (nx := 53) C (nI (kT τ t (p - 1))) 2 (t * 12 + p - 1) dX6_insert_52 rfl rfl (by decide) rfl (by omega) ((hk1 _ (by omega)).trans ((congrArg fk (by omega)).trans (rT_k hT ht (j := p - 1) (by omega)))) ?_
            have hkb := ((hw t ht).2 (p - 1) (by omega)).1
            refine w_iload_n (nx := 54) C 2 dX6_insert_53 rfl rfl rfl ?_
            refine n_icmp_le (tg := 95) (nx := 57) C dX6_insert_54 rfl rfl (by omega) (by omega) (fun h_6 => ?_) (fun h_6 => ?_)
            · refine w_aload_n (nx := 96) C 0 dX6_insert_95 rfl rfl rfl ?_
              refine w_get (nx := 99) C fc6 (.ref b1) 0 1 dX6_insert_96 rfl wl_X6_15 rfl (by decide) rfl rfl ?_
              refine w_iload (nx := 101) C 5 dX6_insert_99 rfl rfl ?_
              refine w_iload_n (nx := 102) C 2 dX6_insert_101 rfl rfl rfl ?_
              refine w_iast (nx := 103) (ws2 := [(h, .inr (6, [.ref b0, .ref b1, .ref b2])), (b0, aI (kG κ) 4 fs), (b1, aI (kG κ) 48 (upd fk2 (t * 12 + p) (nI ky))), (b2, aI (kG κ) 48 fn2)]) C 2 (t * 12 + p) dX6_insert_102 rfl rfl (by decide) rfl (by omega) rfl ?_
              refine w_aload_n (nx := 104) C 0 dX6_insert_103 rfl rfl rfl ?_
              refine w_get (nx := 107) C fc6 (.ref b2) 0 2 dX6_insert_104 rfl wl_X6_18 rfl (by decide) rfl rfl ?_
              refine w_iload (nx := 109) C 5 dX6_insert_107 rfl rfl ?_
              refine w_iload_n (nx := 110) C 3 dX6_insert_109 rfl rfl rfl ?_
              refine w_iast (nx := 111) (ws2 := [(h, .inr (6, [.ref b0, .ref b1, .ref b2])), (b0, aI (kG κ) 4 fs), (b1, aI (kG κ) 48 (upd fk2 (t * 12 + p) (nI ky))), (b2, aI (kG κ) 48 (upd fn2 (t * 12 + p) (nI nm)))]) C 3 (t * 12 + p) dX6_insert_110 rfl rfl (by decide) rfl (by omega) rfl ?_
              refine w_aload_n (nx := 112) C 0 dX6_insert_111 rfl rfl rfl ?_
              refine w_get (nx := 115) C fc6 (.ref b0) 0 0 dX6_insert_112 rfl wl_X6_9 rfl (by decide) rfl rfl ?_
              refine w_iload_n (nx := 116) C 1 dX6_insert_115 rfl rfl rfl ?_
              refine w_dup2 (nx := 117) C dX6_insert_116 rfl rfl rfl ?_
              refine w_iald (nx := 118) C (nI (zT τ t)) 1 t dX6_insert_117 rfl rfl (by decide) rfl (by omega) (rT_z hT ht) ?_
              refine w_iconst (nx := 119) C (nI 1) dX6_insert_118 rfl (by decide) ?_
              refine w_iadd (nx := 120) C (nI (zT τ t + 1)) dX6_insert_119 rfl (nI_add _ _) ?_
              refine w_iast (nx := 121) (ws2 := [(h, .inr (6, [.ref b0, .ref b1, .ref b2])), (b0, aI (kG κ) 4 (upd fs t (nI (zT τ t + 1)))), (b1, aI (kG κ) 48 (upd fk2 (t * 12 + p) (nI ky))), (b2, aI (kG κ) 48 (upd fn2 (t * 12 + p) (nI nm)))]) C 1 t dX6_insert_120 rfl rfl (by decide) rfl (by omega) rfl ?_
              exact w_vret C E dX6_insert_121 rfl (Nat.le_refl _) (Nat.le_refl _) ⟨_, _, _, rfl, rfl, (rT_lay (p := p) hT hw ht hz (ipos_eq _ hp hgt (by omega)).symm hk1 hk2 hn1 hn2)⟩
            · refine w_aload_n (nx := 58) C 0 dX6_insert_57 rfl rfl rfl ?_
              refine w_get (nx := 61) C fc6 (.ref b1) 0 1 dX6_insert_58 rfl wl_X6_15 rfl (by decide) rfl rfl ?_
              refine w_iload (nx := 63) C 5 dX6_insert_61 rfl rfl ?_
              refine w_aload_n (nx := 64) C 0 dX6_insert_63 rfl rfl rfl ?_
              refine w_get (nx := 67) C fc6 (.ref b1) 0 1 dX6_insert_64 rfl wl_X6_15 rfl (by decide) rfl rfl ?_
              refine w_iload (nx := 69) C 5 dX6_insert_67 rfl rfl ?_
              refine w_iconst (nx := 70) C (nI 1) dX6_insert_69 rfl (by decide) ?_
              refine w_isub (nx := 71) C (nI (t * 12 + p - 1)) dX6_insert_70 rfl (pk_sub (by omega)) ?_
              refine w_iald (nx := 72) C (fk2 (t * 12 + p - 1)) 2 (t * 12 + p - 1) dX6_insert_71 rfl rfl (by decide) rfl (by omega) rfl ?_
              refine w_iast (nx := 73) (ws2 := [(h, .inr (6, [.ref b0, .ref b1, .ref b2])), (b0, aI (kG κ) 4 fs), (b1, aI (kG κ) 48 (upd fk2 (t * 12 + p) (fk2 (t * 12 + p - 1)))), (b2, aI (kG κ) 48 fn2)]) C 2 (t * 12 + p) dX6_insert_72 rfl rfl (by decide) rfl (by omega) rfl ?_
              refine w_aload_n (nx := 74) C 0 dX6_insert_73 rfl rfl rfl ?_
              refine w_get (nx := 77) C fc6 (.ref b2) 0 2 dX6_insert_74 rfl wl_X6_18 rfl (by decide) rfl rfl ?_
              refine w_iload (nx := 79) C 5 dX6_insert_77 rfl rfl ?_
              refine w_aload_n (nx := 80) C 0 dX6_insert_79 rfl rfl rfl ?_
              refine w_get (nx := 83) C fc6 (.ref b2) 0 2 dX6_insert_80 rfl wl_X6_18 rfl (by decide) rfl rfl ?_
              refine w_iload (nx := 85) C 5 dX6_insert_83 rfl rfl ?_
              refine w_iconst (nx := 86) C (nI 1) dX6_insert_85 rfl (by decide) ?_
              refine w_isub (nx := 87) C (nI (t * 12 + p - 1)) dX6_insert_86 rfl (pk_sub (by omega)) ?_
              refine w_iald (nx := 88) C (fn2 (t * 12 + p - 1)) 3 (t * 12 + p - 1) dX6_insert_87 rfl rfl (by decide) rfl (by omega) rfl ?_
              refine w_iast (nx := 89) (ws2 := [(h, .inr (6, [.ref b0, .ref b1, .ref b2])), (b0, aI (kG κ) 4 fs), (b1, aI (kG κ) 48 (upd fk2 (t * 12 + p) (fk2 (t * 12 + p - 1)))), (b2, aI (kG κ) 48 (upd fn2 (t * 12 + p) (fn2 (t * 12 + p - 1))))]) C 3 (t * 12 + p) dX6_insert_88 rfl rfl (by decide) rfl (by omega) rfl ?_
              refine w_iinc (nx := 92) (lo2 := [(5, .int (nI (t * 12 + (p - 1)))), (0, .ref h), (1, .int (nI t)), (2, .int (nI ky)), (3, .int (nI nm)), (4, .int (nI (t * 12)))]) C (nI (t * 12 + (p - 1))) 5 dX6_insert_89 rfl rfl ((nI_dec (k := 1) (by omega)).trans (congrArg nI (by omega))) (by decide) rfl ?_
              refine w_goto (nx := 37) C dX6_insert_92 rfl ?_
              refine ww_lo [1, 2, 3, 4, 5, 0] (lo' := [(0, .ref h), (1, .int (nI t)), (2, .int (nI ky)), (3, .int (nI nm)), (4, .int (nI (t * 12))), (5, .int (nI (t * 12 + (p - 1))))]) rfl ?_
              exact ih9_37 (upd fk2 (t * 12 + p) (fk2 (t * 12 + p - 1))) (upd fn2 (t * 12 + p) (fn2 (t * 12 + p - 1))) (p - 1) (by first | assumption | omega) (fun q a b => (Nat.lt_or_ge q p).elim (fun z => by have e9 : q = p - 1 := (by omega); subst e9; omega) (fun z => hgt q z b)) (fun i hi => (upd_n (by omega)).trans (hk1 i (by omega))) (fun j a b => (Nat.lt_or_ge p j).elim (fun z => (upd_n (by omega)).trans (hk2 j z b)) (fun z => (upd_e (by omega)).trans ((hk1 _ (by omega)).trans (congrArg fk (by omega))))) (fun i hi => (upd_n (by omega)).trans (hn1 i (by omega))) (fun j a b => (Nat.lt_or_ge p j).elim (fun z => (upd_n (by omega)).trans (hn2 j z b)) (fun z => (upd_e (by omega)).trans ((hn1 _ (by omega)).trans (congrArg fn (by omega))))) (by omega)
      refine ww_lo [2, 3, 4, 5, 1, 0] (lo' := [(0, .ref h), (1, .int (nI t)), (2, .int (nI ky)), (3, .int (nI nm)), (4, .int (nI (t * 12))), (5, .int (nI (t * 12 + zT τ t)))]) rfl ?_
      exact LP_4 _ fk fn (zT τ t) (Nat.le_refl _) (fun q a b => absurd b (by omega)) (fun _ _ => rfl) (fun j a b => absurd b (by omega)) (fun _ _ => rfl) (fun j a b => absurd b (by omega)) (Nat.lt_succ_self _)
    · exact absurd hz h_3
set_option maxHeartbeats 4000000 in
set_option maxRecDepth 100000 in
theorem c_X6_renumber (l : Launch) (G : GG) (h : Nat) (b0 : Nat) (b1 : Nat) (b2 : Nat) (fs : Nat → Int32) (fk : Nat → Int32) (fn : Nat → Int32) (τ : TB) (t : Nat) (p : Nat) (nm : Nat) (hT : rT fs fk fn τ) (hw : wfT τ) (ht : t < 4) (hp : p < zT τ t) : MT l G yX6_renumber cX6_renumber 4 none 2 0 0 [.ref h, .int (nI t), .int (nI p), .int (nI nm)] [(h, .inr (6, [.ref b0, .ref b1, .ref b2])), (b0, aI G 4 fs), (b1, aI G 48 fk), (b2, aI G 48 fn)] (fun v9 ws9 => ∃ (fs2 : Nat → Int32) (fk2 : Nat → Int32) (fn2 : Nat → Int32), v9 = none ∧ ws9 = [(h, .inr (6, [.ref b0, .ref b1, .ref b2])), (b0, aI G 4 fs2), (b1, aI G 48 fk2), (b2, aI G 48 fn2)] ∧ rT fs2 fk2 fn2 (setT τ t p nm)) := by
  refine MT.of RX6 [(0, .ref h), (1, .int (nI t)), (2, .int (nI p)), (3, .int (nI nm))] (by decide +kernel) rfl rfl (Nat.le_of_ble_eq_true rfl) (fun κ C E hl9 hG9 hnm9 => ?_)
  subst hl9; subst hG9
  have hz := (hw t ht).1
  refine w_iload_n (nx := 1) C 1 dX6_renumber_0 rfl rfl rfl ?_
  refine w_iconst (nx := 2) C (nI 4) dX6_renumber_1 rfl (by decide) ?_
  refine w_callN (nx := 5) (wr := [(h, .inr (6, [.ref b0, .ref b1, .ref b2])), (b0, aI (kG κ) 4 fs), (b1, aI (kG κ) 48 fk), (b2, aI (kG κ) 48 fn)]) (rest := []) C ms_X8_isWithin (c_X8_isWithin_n _ _ t 4 (by first | assumption | omega) (by first | assumption | omega)) dX6_renumber_2 rfl wx_X6_27 (pm_sel [0, 1, 2, 3] 4 (by decide +kernel) rfl rfl) rfl rfl (Nat.le_of_ble_eq_true rfl) (Nat.le_of_ble_eq_true rfl) (Nat.le_of_ble_eq_true rfl) (Nat.zero_le _) (Nat.zero_le _) (fun v9 w9 R_1 => ?_)
  obtain ⟨rfl, rfl⟩ := R_1
  show WW κ 0 0 [(h, .inr (6, [.ref b0, .ref b1, .ref b2])), (b0, aI (kG κ) 4 fs), (b1, aI (kG κ) 48 fk), (b2, aI (kG κ) 48 fn)] 5 [(0, .ref h), (1, .int (nI t)), (2, .int (nI p)), (3, .int (nI nm))] [.int (bC (t < 4))]
  refine b_if_eq (tg := 33) (nx := 8) C dX6_renumber_5 rfl rfl (fun h_2 => ?_) (fun h_2 => ?_)
  · exact absurd ht h_2
  · refine w_iload_n (nx := 9) C 2 dX6_renumber_8 rfl rfl rfl ?_
    refine w_aload_n (nx := 10) C 0 dX6_renumber_9 rfl rfl rfl ?_
    refine w_get (nx := 13) C fc6 (.ref b0) 0 0 dX6_renumber_10 rfl wl_X6_9 rfl (by decide) rfl rfl ?_
    refine w_iload_n (nx := 14) C 1 dX6_renumber_13 rfl rfl rfl ?_
    refine w_iald (nx := 15) C (nI (zT τ t)) 1 t dX6_renumber_14 rfl rfl (by decide) rfl (by omega) (rT_z hT ht) ?_
    refine w_callN (nx := 18) (wr := [(h, .inr (6, [.ref b0, .ref b1, .ref b2])), (b0, aI (kG κ) 4 fs), (b1, aI (kG κ) 48 fk), (b2, aI (kG κ) 48 fn)]) (rest := []) C ms_X8_isWithin (c_X8_isWithin_n _ _ p (zT τ t) (by first | assumption | omega) (by first | assumption | omega)) dX6_renumber_15 rfl wx_X6_27 (pm_sel [0, 1, 2, 3] 4 (by decide +kernel) rfl rfl) rfl rfl (Nat.le_of_ble_eq_true rfl) (Nat.le_of_ble_eq_true rfl) (Nat.le_of_ble_eq_true rfl) (Nat.zero_le _) (Nat.zero_le _) (fun v9 w9 R_3 => ?_)
    obtain ⟨rfl, rfl⟩ := R_3
    show WW κ 0 0 [(h, .inr (6, [.ref b0, .ref b1, .ref b2])), (b0, aI (kG κ) 4 fs), (b1, aI (kG κ) 48 fk), (b2, aI (kG κ) 48 fn)] 18 [(0, .ref h), (1, .int (nI t)), (2, .int (nI p)), (3, .int (nI nm))] [.int (bC (p < (zT τ t)))]
    refine b_if_eq (tg := 33) (nx := 21) C dX6_renumber_18 rfl rfl (fun h_4 => ?_) (fun h_4 => ?_)
    · exact absurd hp h_4
    · refine w_aload_n (nx := 22) C 0 dX6_renumber_21 rfl rfl rfl ?_
      refine w_get (nx := 25) C fc6 (.ref b2) 0 2 dX6_renumber_22 rfl wl_X6_18 rfl (by decide) rfl rfl ?_
      refine w_iload_n (nx := 26) C 1 dX6_renumber_25 rfl rfl rfl ?_
      refine w_bipush (nx := 28) C (nI 12) dX6_renumber_26 rfl (by decide) ?_
      refine w_imul (nx := 29) C (nI (t * 12)) dX6_renumber_28 rfl (pk_mul _ _) ?_
      refine w_iload_n (nx := 30) C 2 dX6_renumber_29 rfl rfl rfl ?_
      refine w_iadd (nx := 31) C (nI (t * 12 + p)) dX6_renumber_30 rfl (nI_add _ _) ?_
      refine w_iload_n (nx := 32) C 3 dX6_renumber_31 rfl rfl rfl ?_
      refine w_iast (nx := 33) (ws2 := [(h, .inr (6, [.ref b0, .ref b1, .ref b2])), (b0, aI (kG κ) 4 fs), (b1, aI (kG κ) 48 fk), (b2, aI (kG κ) 48 (upd fn (t * 12 + p) (nI nm)))]) C 3 (t * 12 + p) dX6_renumber_32 rfl rfl (by decide) rfl (by omega) rfl ?_
      exact w_vret C E dX6_renumber_33 rfl (Nat.le_refl _) (Nat.le_refl _) ⟨_, _, _, rfl, rfl, (rT_set hT hw ht (by omega))⟩
set_option maxHeartbeats 4000000 in
set_option maxRecDepth 100000 in
theorem c_X6_remove (l : Launch) (G : GG) (h : Nat) (b0 : Nat) (b1 : Nat) (b2 : Nat) (fs : Nat → Int32) (fk : Nat → Int32) (fn : Nat → Int32) (τ : TB) (t : Nat) (p : Nat) (hT : rT fs fk fn τ) (hw : wfT τ) (ht : t < 4) (hp : p < zT τ t) : MT l G yX6_remove cX6_remove 5 none 2 0 0 [.ref h, .int (nI t), .int (nI p)] [(h, .inr (6, [.ref b0, .ref b1, .ref b2])), (b0, aI G 4 fs), (b1, aI G 48 fk), (b2, aI G 48 fn)] (fun v9 ws9 => ∃ (fs2 : Nat → Int32) (fk2 : Nat → Int32) (fn2 : Nat → Int32), v9 = none ∧ ws9 = [(h, .inr (6, [.ref b0, .ref b1, .ref b2])), (b0, aI G 4 fs2), (b1, aI G 48 fk2), (b2, aI G 48 fn2)] ∧ rT fs2 fk2 fn2 (drpT τ t p)) := by
  refine MT.of RX6 [(0, .ref h), (1, .int (nI t)), (2, .int (nI p))] (by decide +kernel) rfl rfl (Nat.le_of_ble_eq_true rfl) (fun κ C E hl9 hG9 hnm9 => ?_)
  subst hl9; subst hG9
  have hz := (hw t ht).1
  refine w_iload_n (nx := 1) C 1 dX6_remove_0 rfl rfl rfl ?_
  refine w_iconst (nx := 2) C (nI 4) dX6_remove_1 rfl (by decide) ?_
  refine w_callN (nx := 5) (wr := [(h, .inr (6, [.ref b0, .ref b1, .ref b2])), (b0, aI (kG κ) 4 fs), (b1, aI (kG κ) 48 fk), (b2, aI (kG κ) 48 fn)]) (rest := []) C ms_X8_isWithin (c_X8_isWithin_n _ _ t 4 (by first | assumption | omega) (by first | assumption | omega)) dX6_remove_2 rfl wx_X6_27 (pm_sel [0, 1, 2, 3] 4 (by decide +kernel) rfl rfl) rfl rfl (Nat.le_of_ble_eq_true rfl) (Nat.le_of_ble_eq_true rfl) (Nat.le_of_ble_eq_true rfl) (Nat.zero_le _) (Nat.zero_le _) (fun v9 w9 R_1 => ?_)
  obtain ⟨rfl, rfl⟩ := R_1
  show WW κ 0 0 [(h, .inr (6, [.ref b0, .ref b1, .ref b2])), (b0, aI (kG κ) 4 fs), (b1, aI (kG κ) 48 fk), (b2, aI (kG κ) 48 fn)] 5 [(0, .ref h), (1, .int (nI t)), (2, .int (nI p))] [.int (bC (t < 4))]
  refine b_if_eq (tg := 21) (nx := 8) C dX6_remove_5 rfl rfl (fun h_2 => ?_) (fun h_2 => ?_)
  · exact absurd ht h_2
  · refine w_iload_n (nx := 9) C 2 dX6_remove_8 rfl rfl rfl ?_
    refine w_aload_n (nx := 10) C 0 dX6_remove_9 rfl rfl rfl ?_
    refine w_get (nx := 13) C fc6 (.ref b0) 0 0 dX6_remove_10 rfl wl_X6_9 rfl (by decide) rfl rfl ?_
    refine w_iload_n (nx := 14) C 1 dX6_remove_13 rfl rfl rfl ?_
    refine w_iald (nx := 15) C (nI (zT τ t)) 1 t dX6_remove_14 rfl rfl (by decide) rfl (by omega) (rT_z hT ht) ?_
    refine w_callN (nx := 18) (wr := [(h, .inr (6, [.ref b0, .ref b1, .ref b2])), (b0, aI (kG κ) 4 fs), (b1, aI (kG κ) 48 fk), (b2, aI (kG κ) 48 fn)]) (rest := []) C ms_X8_isWithin (c_X8_isWithin_n _ _ p (zT τ t) (by first | assumption | omega) (by first | assumption | omega)) dX6_remove_15 rfl wx_X6_27 (pm_sel [0, 1, 2, 3] 4 (by decide +kernel) rfl rfl) rfl rfl (Nat.le_of_ble_eq_true rfl) (Nat.le_of_ble_eq_true rfl) (Nat.le_of_ble_eq_true rfl) (Nat.zero_le _) (Nat.zero_le _) (fun v9 w9 R_3 => ?_)
    obtain ⟨rfl, rfl⟩ := R_3
    show WW κ 0 0 [(h, .inr (6, [.ref b0, .ref b1, .ref b2])), (b0, aI (kG κ) 4 fs), (b1, aI (kG κ) 48 fk), (b2, aI (kG κ) 48 fn)] 18 [(0, .ref h), (1, .int (nI t)), (2, .int (nI p))] [.int (bC (p < (zT τ t)))]
    refine b_if_ne (tg := 22) (nx := 21) C dX6_remove_18 rfl rfl (fun h_4 => ?_) (fun h_4 => ?_)
    · refine w_aload_n (nx := 23) C 0 dX6_remove_22 rfl rfl rfl ?_
      refine w_get (nx := 26) C fc6 (.ref b0) 0 0 dX6_remove_23 rfl wl_X6_9 rfl (by decide) rfl rfl ?_
      refine w_iload_n (nx := 27) C 1 dX6_remove_26 rfl rfl rfl ?_
      refine w_dup2 (nx := 28) C dX6_remove_27 rfl rfl rfl ?_
      refine w_iald (nx := 29) C (nI (zT τ t)) 1 t dX6_remove_28 rfl rfl (by decide) rfl (by omega) (rT_z hT ht) ?_
      refine w_iconst (nx := 30) C (nI 1) dX6_remove_29 rfl (by decide) ?_
      refine w_isub (nx := 31) C (nI (zT τ t - 1)) dX6_remove_30 rfl (pk_sub (by omega)) ?_
      refine w_iast (nx := 32) (ws2 := [(h, .inr (6, [.ref b0, .ref b1, .ref b2])), (b0, aI (kG κ) 4 (upd fs t (nI (zT τ t - 1)))), (b1, aI (kG κ) 48 fk), (b2, aI (kG κ) 48 fn)]) C 1 t dX6_remove_31 rfl rfl (by decide) rfl (by omega) rfl ?_
      refine w_iload_n (nx := 33) C 1 dX6_remove_32 rfl rfl rfl ?_
      refine w_bipush (nx := 35) C (nI 12) dX6_remove_33 rfl (by decide) ?_
      refine w_imul (nx := 36) C (nI (t * 12)) dX6_remove_35 rfl (pk_mul _ _) ?_
      refine w_aload_n (nx := 37) C 0 dX6_remove_36 rfl rfl rfl ?_
      refine w_get (nx := 40) C fc6 (.ref b0) 0 0 dX6_remove_37 rfl wl_X6_9 rfl (by decide) rfl rfl ?_
      refine w_iload_n (nx := 41) C 1 dX6_remove_40 rfl rfl rfl ?_
      refine w_iald (nx := 42) C (nI (zT τ t - 1)) 1 t dX6_remove_41 rfl rfl (by decide) rfl (by omega) (upd_e rfl) ?_
      refine w_iadd (nx := 43) C (nI (t * 12 + (zT τ t - 1))) dX6_remove_42 rfl (nI_add _ _) ?_
      refine w_istore_n (nx := 44) (lo2 := [(3, .int (nI (t * 12 + (zT τ t - 1)))), (0, .ref h), (1, .int (nI t)), (2, .int (nI p))]) C dX6_remove_43 rfl rfl (by decide) rfl ?_
      refine w_iload_n (nx := 45) C 2 dX6_remove_44 rfl rfl rfl ?_
      refine w_bipush (nx := 47) C (nI 12) dX6_remove_45 rfl (by decide) ?_
      refine w_imul (nx := 48) C (nI (t * 12)) dX6_remove_47 rfl (pk_mul _ _) ?_
      refine w_iload_n (nx := 49) C 3 dX6_remove_48 rfl rfl rfl ?_
      refine w_iadd (nx := 50) C (nI (t * 12 + p)) dX6_remove_49 rfl (nI_add _ _) ?_
      refine w_istore (nx := 52) (lo2 := [(4, .int (nI (t * 12 + p))), (3, .int (nI (t * 12 + (zT τ t - 1)))), (0, .ref h), (1, .int (nI t)), (2, .int (nI p))]) C dX6_remove_50 rfl (by decide) rfl ?_
      have LP_5 : ∀ (N9_52 : Nat) (fk2 : Nat → Int32) (fn2 : Nat → Int32) (q : Nat), (p ≤ q) → (q ≤ zT τ t - 1) → (∀ i, (i < t * 12 + p ∨ t * 12 + q ≤ i) → fk2 i = fk i) → (∀ j, p ≤ j → j < q → fk2 (t * 12 + j) = fk (t * 12 + (j + 1))) → (∀ i, (i < t * 12 + p ∨ t * 12 + q ≤ i) → fn2 i = fn i) → (∀ j, p ≤ j → j < q → fn2 (t * 12 + j) = fn (t * 12 + (j + 1))) → (zT τ t - 1 - q) < N9_52 → WW κ 0 0 [(h, .inr (6, [.ref b0, .ref b1, .ref b2])), (b0, aI (kG κ) 4 (upd fs t (nI (zT τ t - 1)))), (b1, aI (kG κ) 48 fk2), (b2, aI (kG κ) 48 fn2)] 52 [(0, .ref h), (1, .int (nI t)), (2, .int (nI p)), (3, .int (nI (t * 12 + (zT τ t - 1)))), (4, .int (nI (t * 12 + q)))] [] := by
        intro N9_52
        induction N9_52 with
        | zero => intro fk2 fn2 q hq1 hq2 hk1 hk2 hn1 hn2 hm9_52; exact absurd hm9_52 (Nat.not_lt_zero _)
        | succ N9_52 ih9_52 =>
          intro fk2 fn2 q hq1 hq2 hk1 hk2 hn1 hn2 hm9_52
          refine w_iload (nx := 54) C 4 dX6_remove_52 rfl rfl ?_
          refine w_iload_n (nx := 55) C 3 dX6_remove_54 rfl rfl rfl ?_
          refine n_icmp_ge (tg := 96) (nx := 58) C dX6_remove_55 rfl rfl (by omega) (by omega) (fun h_6 => ?_) (fun h_6 => ?_)
          · exact w_vret C E dX6_remove_96 rfl (Nat.le_refl _) (Nat.le_refl _) ⟨_, _, _, rfl, rfl, (rT_drp (p := p) hT hw ht (fun i hi => hk1 i (by omega)) (fun j a b => hk2 j a (by omega)) (fun i hi => hn1 i (by omega)) (fun j a b => hn2 j a (by omega)))⟩
          · refine w_aload_n (nx := 59) C 0 dX6_remove_58 rfl rfl rfl ?_
            refine w_get (nx := 62) C fc6 (.ref b1) 0 1 dX6_remove_59 rfl wl_X6_15 rfl (by decide) rfl rfl ?_
            refine w_iload (nx := 64) C 4 dX6_remove_62 rfl rfl ?_
            refine w_aload_n (nx := 65) C 0 dX6_remove_64 rfl rfl rfl ?_
            refine w_get (nx := 68) C fc6 (.ref b1) 0 1 dX6_remove_65 rfl wl_X6_15 rfl (by decide) rfl rfl ?_
            refine w_iload (nx := 70) C 4 dX6_remove_68 rfl rfl ?_
            refine w_iconst (nx := 71) C (nI 1) dX6_remove_70 rfl (by decide) ?_
            refine w_iadd (nx := 72) C (nI (t * 12 + q + 1)) dX6_remove_71 rfl (nI_add _ _) ?_
            refine w_iald (nx := 73) C (fk2 (t * 12 + q + 1)) 2 (t * 12 + q + 1) dX6_remove_72 rfl rfl (by decide) rfl (by omega) rfl ?_
            refine w_iast (nx := 74) (ws2 := [(h, .inr (6, [.ref b0, .ref b1, .ref b2])), (b0, aI (kG κ) 4 (upd fs t (nI (zT τ t - 1)))), (b1, aI (kG κ) 48 (upd fk2 (t * 12 + q) (fk2 (t * 12 + q + 1)))), (b2, aI (kG κ) 48 fn2)]) C 2 (t * 12 + q) dX6_remove_73 rfl rfl (by decide) rfl (by omega) rfl ?_
            refine w_aload_n (nx := 75) C 0 dX6_remove_74 rfl rfl rfl ?_
            refine w_get (nx := 78) C fc6 (.ref b2) 0 2 dX6_remove_75 rfl wl_X6_18 rfl (by decide) rfl rfl ?_
            refine w_iload (nx := 80) C 4 dX6_remove_78 rfl rfl ?_
            refine w_aload_n (nx := 81) C 0 dX6_remove_80 rfl rfl rfl ?_
            refine w_get (nx := 84) C fc6 (.ref b2) 0 2 dX6_remove_81 rfl wl_X6_18 rfl (by decide) rfl rfl ?_
            refine w_iload (nx := 86) C 4 dX6_remove_84 rfl rfl ?_
            refine w_iconst (nx := 87) C (nI 1) dX6_remove_86 rfl (by decide) ?_
            refine w_iadd (nx := 88) C (nI (t * 12 + q + 1)) dX6_remove_87 rfl (nI_add _ _) ?_
            refine w_iald (nx := 89) C (fn2 (t * 12 + q + 1)) 3 (t * 12 + q + 1) dX6_remove_88 rfl rfl (by decide) rfl (by omega) rfl ?_
            refine w_iast (nx := 90) (ws2 := [(h, .inr (6, [.ref b0, .ref b1, .ref b2])), (b0, aI (kG κ) 4 (upd fs t (nI (zT τ t - 1)))), (b1, aI (kG κ) 48 (upd fk2 (t * 12 + q) (fk2 (t * 12 + q + 1)))), (b2, aI (kG κ) 48 (upd fn2 (t * 12 + q) (fn2 (t * 12 + q + 1))))]) C 3 (t * 12 + q) dX6_remove_89 rfl rfl (by decide) rfl (by omega) rfl ?_
            refine w_iinc (nx := 93) (lo2 := [(4, .int (nI (t * 12 + q + 1))), (0, .ref h), (1, .int (nI t)), (2, .int (nI p)), (3, .int (nI (t * 12 + (zT τ t - 1))))]) C (nI (t * 12 + q + 1)) 4 dX6_remove_90 rfl rfl (nI_add _ _) (by decide) rfl ?_
            refine w_goto (nx := 52) C dX6_remove_93 rfl ?_
            refine ww_lo [1, 2, 3, 4, 0] (lo' := [(0, .ref h), (1, .int (nI t)), (2, .int (nI p)), (3, .int (nI (t * 12 + (zT τ t - 1)))), (4, .int (nI (t * 12 + q + 1)))]) rfl ?_
            exact ih9_52 (upd fk2 (t * 12 + q) (fk2 (t * 12 + q + 1))) (upd fn2 (t * 12 + q) (fn2 (t * 12 + q + 1))) (q + 1) (by first | assumption | omega) (by first | assumption | omega) (fun i hi => (upd_n (by omega)).trans (hk1 i (by omega))) (fun j a b => (Nat.lt_or_ge j q).elim (fun z => (upd_n (by omega)).trans (hk2 j a z)) (fun z => (upd_e (by omega)).trans ((hk1 _ (by omega)).trans (congrArg fk (by omega))))) (fun i hi => (upd_n (by omega)).trans (hn1 i (by omega))) (fun j a b => (Nat.lt_or_ge j q).elim (fun z => (upd_n (by omega)).trans (hn2 j a z)) (fun z => (upd_e (by omega)).trans ((hn1 _ (by omega)).trans (congrArg fn (by omega))))) (by omega)
      refine ww_lo [2, 3, 4, 1, 0] (lo' := [(0, .ref h), (1, .int (nI t)), (2, .int (nI p)), (3, .int (nI (t * 12 + (zT τ t - 1)))), (4, .int (nI (t * 12 + p)))]) rfl ?_
      exact LP_5 _ fk fn p (by first | assumption | omega) (by first | assumption | omega) (fun _ _ => rfl) (fun j a b => absurd b (by omega)) (fun _ _ => rfl) (fun j a b => absurd b (by omega)) (Nat.lt_succ_self _)
    · exact absurd hp h_4
set_option maxHeartbeats 4000000 in
set_option maxRecDepth 100000 in
theorem c_X6_apply (l : Launch) (G : GG) (h : Nat) (b0 : Nat) (b1 : Nat) (b2 : Nat) (fs : Nat → Int32) (fk : Nat → Int32) (fn : Nat → Int32) (τ : TB) (kd : Nat) (t : Nat) (ky : Nat) (w : Nat) (nm : Nat) (hT : rT fs fk fn τ) (hw : wfT τ) (ht : t < 4) (hkd : kd < 3) (hk : ky < 100) (hg : wgt τ kd t ky nm = some w) : MT l G yX6_apply cX6_apply 5 none 4 0 0 [.ref h, .int (nI kd), .int (nI t), .int (nI ky), .int (nI w)] [(h, .inr (6, [.ref b0, .ref b1, .ref b2])), (b0, aI G 4 fs), (b1, aI G 48 fk), (b2, aI G 48 fn)] (fun v9 ws9 => ∃ (fs2 : Nat → Int32) (fk2 : Nat → Int32) (fn2 : Nat → Int32), v9 = none ∧ ws9 = [(h, .inr (6, [.ref b0, .ref b1, .ref b2])), (b0, aI G 4 fs2), (b1, aI G 48 fk2), (b2, aI G 48 fn2)] ∧ rT fs2 fk2 fn2 (appT τ kd t ky w)) := by
  refine MT.of RX6 [(0, .ref h), (1, .int (nI kd)), (2, .int (nI t)), (3, .int (nI ky)), (4, .int (nI w))] (by decide +kernel) rfl rfl (Nat.le_of_ble_eq_true rfl) (fun κ C E hl9 hG9 hnm9 => ?_)
  subst hl9; subst hG9
  refine w_iload_n (nx := 1) C 1 dX6_apply_0 rfl rfl rfl ?_
  refine n_if_ne (tg := 15) (nx := 4) C dX6_apply_1 rfl rfl (by omega) (fun h_1 => ?_) (fun h_1 => ?_)
  · refine w_iload_n (nx := 16) C 1 dX6_apply_15 rfl rfl rfl ?_
    refine w_iconst (nx := 17) C (nI 1) dX6_apply_16 rfl (by decide) ?_
    refine n_icmp_ne (tg := 36) (nx := 20) C dX6_apply_17 rfl rfl (by omega) (by omega) (fun h_2 => ?_) (fun h_2 => ?_)
    · refine w_aload_n (nx := 37) C 0 dX6_apply_36 rfl rfl rfl ?_
      refine w_iload_n (nx := 38) C 2 dX6_apply_37 rfl rfl rfl ?_
      refine w_aload_n (nx := 39) C 0 dX6_apply_38 rfl rfl rfl ?_
      refine w_iload_n (nx := 40) C 2 dX6_apply_39 rfl rfl rfl ?_
      refine w_iload_n (nx := 41) C 3 dX6_apply_40 rfl rfl rfl ?_
      refine w_callV (nx := 44) (wr := []) (rest := [.int (nI t), .ref h]) C mi_X6_placeOf (c_X6_placeOf _ _ h b0 b1 b2 fs fk fn τ t ky (by first | assumption | omega) (by first | assumption | omega) (by first | assumption | omega) (by first | assumption | omega)) 0 dX6_apply_41 rfl wl_X6_39 rfl rfl rfl (pm_sel [0, 1, 2, 3] 4 (by decide +kernel) rfl rfl) rfl rfl (Nat.le_of_ble_eq_true rfl) (Nat.le_of_ble_eq_true rfl) (Nat.le_of_ble_eq_true rfl) (Nat.zero_le _) (Nat.zero_le _) (fun v9 w9 R_3 => ?_)
      rcases R_3 with ⟨rfl, rfl, hp_4⟩ | ⟨rfl, rfl, hp_5⟩
      · show WW κ 0 0 [(h, .inr (6, [.ref b0, .ref b1, .ref b2])), (b0, aI (kG κ) 4 fs), (b1, aI (kG κ) 48 fk), (b2, aI (kG κ) 48 fn)] 44 [(0, .ref h), (1, .int (nI kd)), (2, .int (nI t)), (3, .int (nI ky)), (4, .int (nI w))] [.int (nI (plT τ t ky)), .int (nI t), .ref h]
        refine w_callV (nx := 47) (wr := []) (rest := []) C mi_X6_remove (c_X6_remove _ _ h b0 b1 b2 fs fk fn τ t (plT τ t ky) (by first | assumption | omega) (by first | assumption | omega) (by first | assumption | omega) (by first | assumption | omega)) 0 dX6_apply_44 rfl wl_X6_49 rfl rfl rfl (pm_sel [0, 1, 2, 3] 4 (by decide +kernel) rfl rfl) rfl rfl (Nat.le_of_ble_eq_true rfl) (Nat.le_of_ble_eq_true rfl) (Nat.le_of_ble_eq_true rfl) (Nat.zero_le _) (Nat.zero_le _) (fun v9 w9 R_6 => ?_)
        obtain ⟨fs2_7, fk2_8, fn2_9, rfl, rfl, hR_10⟩ := R_6
        show WW κ 0 0 [(h, .inr (6, [.ref b0, .ref b1, .ref b2])), (b0, aI (kG κ) 4 fs2_7), (b1, aI (kG κ) 48 fk2_8), (b2, aI (kG κ) 48 fn2_9)] 47 [(0, .ref h), (1, .int (nI kd)), (2, .int (nI t)), (3, .int (nI ky)), (4, .int (nI w))] []
        exact w_vret C E dX6_apply_47 rfl (Nat.le_refl _) (Nat.le_refl _) ⟨_, _, _, rfl, rfl, (by unfold appT; (repeat (first | rw [if_pos (by omega)] | rw [if_neg (by omega)])); assumption)⟩
      · show WW κ 0 0 [(h, .inr (6, [.ref b0, .ref b1, .ref b2])), (b0, aI (kG κ) 4 fs), (b1, aI (kG κ) 48 fk), (b2, aI (kG κ) 48 fn)] 44 [(0, .ref h), (1, .int (nI kd)), (2, .int (nI t)), (3, .int (nI ky)), (4, .int (nI w))] [.int (-1), .int (nI t), .ref h]
        exfalso
        unfold wgt at hg
        rw [if_neg (by omega), if_pos (by omega)] at hg
        exact absurd hg (by intro h; cases h)
    · refine w_aload_n (nx := 21) C 0 dX6_apply_20 rfl rfl rfl ?_
      refine w_iload_n (nx := 22) C 2 dX6_apply_21 rfl rfl rfl ?_
      refine w_aload_n (nx := 23) C 0 dX6_apply_22 rfl rfl rfl ?_
      refine w_iload_n (nx := 24) C 2 dX6_apply_23 rfl rfl rfl ?_
      refine w_iload_n (nx := 25) C 3 dX6_apply_24 rfl rfl rfl ?_
      refine w_callV (nx := 28) (wr := []) (rest := [.int (nI t), .ref h]) C mi_X6_placeOf (c_X6_placeOf _ _ h b0 b1 b2 fs fk fn τ t ky (by first | assumption | omega) (by first | assumption | omega) (by first | assumption | omega) (by first | assumption | omega)) 0 dX6_apply_25 rfl wl_X6_39 rfl rfl rfl (pm_sel [0, 1, 2, 3] 4 (by decide +kernel) rfl rfl) rfl rfl (Nat.le_of_ble_eq_true rfl) (Nat.le_of_ble_eq_true rfl) (Nat.le_of_ble_eq_true rfl) (Nat.zero_le _) (Nat.zero_le _) (fun v9 w9 R_11 => ?_)
      rcases R_11 with ⟨rfl, rfl, hp_12⟩ | ⟨rfl, rfl, hp_13⟩
      · show WW κ 0 0 [(h, .inr (6, [.ref b0, .ref b1, .ref b2])), (b0, aI (kG κ) 4 fs), (b1, aI (kG κ) 48 fk), (b2, aI (kG κ) 48 fn)] 28 [(0, .ref h), (1, .int (nI kd)), (2, .int (nI t)), (3, .int (nI ky)), (4, .int (nI w))] [.int (nI (plT τ t ky)), .int (nI t), .ref h]
        refine w_iload (nx := 30) C 4 dX6_apply_28 rfl rfl ?_
        refine w_callV (nx := 33) (wr := []) (rest := []) C mi_X6_renumber (c_X6_renumber _ _ h b0 b1 b2 fs fk fn τ t (plT τ t ky) w (by first | assumption | omega) (by first | assumption | omega) (by first | assumption | omega) (by first | assumption | omega)) 0 dX6_apply_30 rfl wl_X6_46 rfl rfl rfl (pm_sel [0, 1, 2, 3] 4 (by decide +kernel) rfl rfl) rfl rfl (Nat.le_of_ble_eq_true rfl) (Nat.le_of_ble_eq_true rfl) (Nat.le_of_ble_eq_true rfl) (Nat.zero_le _) (Nat.zero_le _) (fun v9 w9 R_14 => ?_)
        obtain ⟨fs2_15, fk2_16, fn2_17, rfl, rfl, hR_18⟩ := R_14
        show WW κ 0 0 [(h, .inr (6, [.ref b0, .ref b1, .ref b2])), (b0, aI (kG κ) 4 fs2_15), (b1, aI (kG κ) 48 fk2_16), (b2, aI (kG κ) 48 fn2_17)] 33 [(0, .ref h), (1, .int (nI kd)), (2, .int (nI t)), (3, .int (nI ky)), (4, .int (nI w))] []
        refine w_goto (nx := 47) C dX6_apply_33 rfl ?_
        exact w_vret C E dX6_apply_47 rfl (Nat.le_refl _) (Nat.le_refl _) ⟨_, _, _, rfl, rfl, (by unfold appT; (repeat (first | rw [if_pos (by omega)] | rw [if_neg (by omega)])); assumption)⟩
      · show WW κ 0 0 [(h, .inr (6, [.ref b0, .ref b1, .ref b2])), (b0, aI (kG κ) 4 fs), (b1, aI (kG κ) 48 fk), (b2, aI (kG κ) 48 fn)] 28 [(0, .ref h), (1, .int (nI kd)), (2, .int (nI t)), (3, .int (nI ky)), (4, .int (nI w))] [.int (-1), .int (nI t), .ref h]
        exfalso
        unfold wgt at hg
        rw [if_neg (by omega), if_pos (by omega)] at hg
        exact absurd hg (by intro h; cases h)
  · have hz9 : zT τ t < 12 := by
      unfold wgt at hg
      rw [if_pos (by assumption)] at hg
      split at hg
      · omega
      · cases hg
    refine w_aload_n (nx := 5) C 0 dX6_apply_4 rfl rfl rfl ?_
    refine w_iload_n (nx := 6) C 2 dX6_apply_5 rfl rfl rfl ?_
    refine w_iload_n (nx := 7) C 3 dX6_apply_6 rfl rfl rfl ?_
    refine w_iload (nx := 9) C 4 dX6_apply_7 rfl rfl ?_
    refine w_callV (nx := 12) (wr := []) (rest := []) C mi_X6_insert (c_X6_insert _ _ h b0 b1 b2 fs fk fn τ t ky w (by first | assumption | omega) (by first | assumption | omega) (by first | assumption | omega) (by first | assumption | omega) (by first | assumption | omega)) 0 dX6_apply_9 rfl wl_X6_42 rfl rfl rfl (pm_sel [0, 1, 2, 3] 4 (by decide +kernel) rfl rfl) rfl rfl (Nat.le_of_ble_eq_true rfl) (Nat.le_of_ble_eq_true rfl) (Nat.le_of_ble_eq_true rfl) (Nat.zero_le _) (Nat.zero_le _) (fun v9 w9 R_19 => ?_)
    obtain ⟨fs2_20, fk2_21, fn2_22, rfl, rfl, hR_23⟩ := R_19
    show WW κ 0 0 [(h, .inr (6, [.ref b0, .ref b1, .ref b2])), (b0, aI (kG κ) 4 fs2_20), (b1, aI (kG κ) 48 fk2_21), (b2, aI (kG κ) 48 fn2_22)] 12 [(0, .ref h), (1, .int (nI kd)), (2, .int (nI t)), (3, .int (nI ky)), (4, .int (nI w))] []
    refine w_goto (nx := 47) C dX6_apply_12 rfl ?_
    exact w_vret C E dX6_apply_47 rfl (Nat.le_refl _) (Nat.le_refl _) ⟨_, _, _, rfl, rfl, (by unfold appT; (repeat (first | rw [if_pos (by omega)] | rw [if_neg (by omega)])); assumption)⟩
set_option maxHeartbeats 4000000 in
set_option maxRecDepth 100000 in
theorem c_X6_copyFrom (l : Launch) (G : GG) (h : Nat) (b0 : Nat) (b1 : Nat) (b2 : Nat) (fs : Nat → Int32) (fk : Nat → Int32) (fn : Nat → Int32) (h2 : Nat) (d0 : Nat) (d1 : Nat) (d2 : Nat) (gs : Nat → Int32) (gk : Nat → Int32) (gn : Nat → Int32) (τ : TB) (hT : rT gs gk gn τ) (hw : wfT τ) : MT l G yX6_copyFrom cX6_copyFrom 2 none 1 0 0 [.ref h, .ref h2] [(h, .inr (6, [.ref b0, .ref b1, .ref b2])), (b0, aI G 4 fs), (b1, aI G 48 fk), (b2, aI G 48 fn), (h2, .inr (6, [.ref d0, .ref d1, .ref d2])), (d0, aI G 4 gs), (d1, aI G 48 gk), (d2, aI G 48 gn)] (fun v9 ws9 => ∃ (fs2 : Nat → Int32) (fk2 : Nat → Int32) (fn2 : Nat → Int32), v9 = none ∧ ws9 = [(h, .inr (6, [.ref b0, .ref b1, .ref b2])), (b0, aI G 4 fs2), (b1, aI G 48 fk2), (b2, aI G 48 fn2), (h2, .inr (6, [.ref d0, .ref d1, .ref d2])), (d0, aI G 4 gs), (d1, aI G 48 gk), (d2, aI G 48 gn)] ∧ rT fs2 fk2 fn2 τ) := by
  refine MT.of RX6 [(0, .ref h), (1, .ref h2)] (by decide +kernel) rfl rfl (Nat.le_of_ble_eq_true rfl) (fun κ C E hl9 hG9 hnm9 => ?_)
  subst hl9; subst hG9
  refine w_aload_n (nx := 1) C 1 dX6_copyFrom_0 rfl rfl rfl ?_
  refine w_get (nx := 4) C fc6 (.ref d0) 4 0 dX6_copyFrom_1 rfl wl_X6_9 rfl (by decide) rfl rfl ?_
  refine w_iconst (nx := 5) C (nI 0) dX6_copyFrom_4 rfl (by decide) ?_
  refine w_aload_n (nx := 6) C 0 dX6_copyFrom_5 rfl rfl rfl ?_
  refine w_get (nx := 9) C fc6 (.ref b0) 0 0 dX6_copyFrom_6 rfl wl_X6_9 rfl (by decide) rfl rfl ?_
  refine w_iconst (nx := 10) C (nI 0) dX6_copyFrom_9 rfl (by decide) ?_
  refine w_iconst (nx := 11) C (nI 4) dX6_copyFrom_10 rfl (by decide) ?_
  refine w_copy (nx := 14) (rest := []) (ws2 := [(h, .inr (6, [.ref b0, .ref b1, .ref b2])), (b0, aI (kG κ) 4 (va_cpy gs fs 0 0 4)), (b1, aI (kG κ) 48 fk), (b2, aI (kG κ) 48 fn), (h2, .inr (6, [.ref d0, .ref d1, .ref d2])), (d0, aI (kG κ) 4 gs), (d1, aI (kG κ) 48 gk), (d2, aI (kG κ) 48 gn)]) C 5 1 0 0 4 dX6_copyFrom_11 rfl wl_X6_21 rfl rfl (by decide) (by decide) rfl rfl rfl (by omega) (by omega) (Nat.le_of_ble_eq_true rfl) (Nat.le_of_ble_eq_true rfl) rfl ?_
  refine w_aload_n (nx := 15) C 1 dX6_copyFrom_14 rfl rfl rfl ?_
  refine w_get (nx := 18) C fc6 (.ref d1) 4 1 dX6_copyFrom_15 rfl wl_X6_15 rfl (by decide) rfl rfl ?_
  refine w_iconst (nx := 19) C (nI 0) dX6_copyFrom_18 rfl (by decide) ?_
  refine w_aload_n (nx := 20) C 0 dX6_copyFrom_19 rfl rfl rfl ?_
  refine w_get (nx := 23) C fc6 (.ref b1) 0 1 dX6_copyFrom_20 rfl wl_X6_15 rfl (by decide) rfl rfl ?_
  refine w_iconst (nx := 24) C (nI 0) dX6_copyFrom_23 rfl (by decide) ?_
  refine w_bipush (nx := 26) C (nI 48) dX6_copyFrom_24 rfl (by decide) ?_
  refine w_copy (nx := 29) (rest := []) (ws2 := [(h, .inr (6, [.ref b0, .ref b1, .ref b2])), (b0, aI (kG κ) 4 (va_cpy gs fs 0 0 4)), (b1, aI (kG κ) 48 (va_cpy gk fk 0 0 48)), (b2, aI (kG κ) 48 fn), (h2, .inr (6, [.ref d0, .ref d1, .ref d2])), (d0, aI (kG κ) 4 gs), (d1, aI (kG κ) 48 gk), (d2, aI (kG κ) 48 gn)]) C 6 2 0 0 48 dX6_copyFrom_26 rfl wl_X6_21 rfl rfl (by decide) (by decide) rfl rfl rfl (by omega) (by omega) (Nat.le_of_ble_eq_true rfl) (Nat.le_of_ble_eq_true rfl) rfl ?_
  refine w_aload_n (nx := 30) C 1 dX6_copyFrom_29 rfl rfl rfl ?_
  refine w_get (nx := 33) C fc6 (.ref d2) 4 2 dX6_copyFrom_30 rfl wl_X6_18 rfl (by decide) rfl rfl ?_
  refine w_iconst (nx := 34) C (nI 0) dX6_copyFrom_33 rfl (by decide) ?_
  refine w_aload_n (nx := 35) C 0 dX6_copyFrom_34 rfl rfl rfl ?_
  refine w_get (nx := 38) C fc6 (.ref b2) 0 2 dX6_copyFrom_35 rfl wl_X6_18 rfl (by decide) rfl rfl ?_
  refine w_iconst (nx := 39) C (nI 0) dX6_copyFrom_38 rfl (by decide) ?_
  refine w_bipush (nx := 41) C (nI 48) dX6_copyFrom_39 rfl (by decide) ?_
  refine w_copy (nx := 44) (rest := []) (ws2 := [(h, .inr (6, [.ref b0, .ref b1, .ref b2])), (b0, aI (kG κ) 4 (va_cpy gs fs 0 0 4)), (b1, aI (kG κ) 48 (va_cpy gk fk 0 0 48)), (b2, aI (kG κ) 48 (va_cpy gn fn 0 0 48)), (h2, .inr (6, [.ref d0, .ref d1, .ref d2])), (d0, aI (kG κ) 4 gs), (d1, aI (kG κ) 48 gk), (d2, aI (kG κ) 48 gn)]) C 7 3 0 0 48 dX6_copyFrom_41 rfl wl_X6_21 rfl rfl (by decide) (by decide) rfl rfl rfl (by omega) (by omega) (Nat.le_of_ble_eq_true rfl) (Nat.le_of_ble_eq_true rfl) rfl ?_
  exact w_vret C E dX6_copyFrom_44 rfl (Nat.le_refl _) (Nat.le_refl _) ⟨_, _, _, rfl, rfl, (rT_cpy hT hw)⟩
set_option maxHeartbeats 4000000 in
set_option maxRecDepth 100000 in
theorem c_X6_rows (l : Launch) (G : GG) (h : Nat) (b0 : Nat) (b1 : Nat) (b2 : Nat) (fs : Nat → Int32) (fk : Nat → Int32) (fn : Nat → Int32) (τ : TB) (hT : rT fs fk fn τ) (hw : wfT τ) : MT l G yX6_rows cX6_rows 3 (some .int) 1 0 0 [.ref h] [(h, .inr (6, [.ref b0, .ref b1, .ref b2])), (b0, aI G 4 fs), (b1, aI G 48 fk), (b2, aI G 48 fn)] (fun v9 ws9 => v9 = some (.int (nI (allT τ))) ∧ ws9 = [(h, .inr (6, [.ref b0, .ref b1, .ref b2])), (b0, aI G 4 fs), (b1, aI G 48 fk), (b2, aI G 48 fn)]) := by
  refine MT.of RX6 [(0, .ref h)] (by decide +kernel) rfl rfl (Nat.le_of_ble_eq_true rfl) (fun κ C E hl9 hG9 hnm9 => ?_)
  subst hl9; subst hG9
  refine w_iconst (nx := 1) C (nI 0) dX6_rows_0 rfl (by decide) ?_
  refine w_istore_n (nx := 2) (lo2 := [(1, .int (nI 0)), (0, .ref h)]) C dX6_rows_1 rfl rfl (by decide) rfl ?_
  refine w_iconst (nx := 3) C (nI 0) dX6_rows_2 rfl (by decide) ?_
  refine w_istore_n (nx := 4) (lo2 := [(2, .int (nI 0)), (1, .int (nI 0)), (0, .ref h)]) C dX6_rows_3 rfl rfl (by decide) rfl ?_
  refine w_iload_n (nx := 5) C 0 dX6_rows_4 rfl rfl rfl ?_
  refine w_iconst (nx := 6) C (nI 4) dX6_rows_5 rfl (by decide) ?_
  refine n_icmp_ge (tg := 24) (nx := 9) C dX6_rows_6 rfl rfl (by decide) (by decide) (fun q9 => absurd q9 (by decide)) (fun _ => ?_)
  refine w_iload_n (nx := 10) C 1 dX6_rows_9 rfl rfl rfl ?_
  refine w_aload_n (nx := 11) C 2 dX6_rows_10 rfl rfl rfl ?_
  refine w_get (nx := 14) C fc6 (.ref b0) 0 0 dX6_rows_11 rfl wl_X6_9 rfl (by decide) rfl rfl ?_
  refine w_iload_n (nx := 15) C 0 dX6_rows_14 rfl rfl rfl ?_
  refine w_iald (nx := 16) C (nI (zT τ 0)) 1 0 dX6_rows_15 rfl rfl (by decide) rfl (by omega) (rT_z hT (by decide)) ?_
  refine w_iadd (nx := 17) C (nI (0 + zT τ 0)) dX6_rows_16 rfl (nI_add _ _) ?_
  refine w_istore_n (nx := 18) (lo2 := [(1, .int (nI (0 + zT τ 0))), (2, .int (nI 0)), (0, .ref h)]) C dX6_rows_17 rfl rfl (by decide) rfl ?_
  refine w_iinc (nx := 21) (lo2 := [(2, .int (nI 1)), (1, .int (nI (0 + zT τ 0))), (0, .ref h)]) C (nI 1) 1 dX6_rows_18 rfl rfl (nI_add _ _) (by decide) rfl ?_
  refine w_goto (nx := 4) C dX6_rows_21 rfl ?_
  refine w_iload_n (nx := 5) C 0 dX6_rows_4 rfl rfl rfl ?_
  refine w_iconst (nx := 6) C (nI 4) dX6_rows_5 rfl (by decide) ?_
  refine n_icmp_ge (tg := 24) (nx := 9) C dX6_rows_6 rfl rfl (by decide) (by decide) (fun q9 => absurd q9 (by decide)) (fun _ => ?_)
  refine w_iload_n (nx := 10) C 1 dX6_rows_9 rfl rfl rfl ?_
  refine w_aload_n (nx := 11) C 2 dX6_rows_10 rfl rfl rfl ?_
  refine w_get (nx := 14) C fc6 (.ref b0) 0 0 dX6_rows_11 rfl wl_X6_9 rfl (by decide) rfl rfl ?_
  refine w_iload_n (nx := 15) C 0 dX6_rows_14 rfl rfl rfl ?_
  refine w_iald (nx := 16) C (nI (zT τ 1)) 1 1 dX6_rows_15 rfl rfl (by decide) rfl (by omega) (rT_z hT (by decide)) ?_
  refine w_iadd (nx := 17) C (nI (0 + zT τ 0 + zT τ 1)) dX6_rows_16 rfl (nI_add _ _) ?_
  refine w_istore_n (nx := 18) (lo2 := [(1, .int (nI (0 + zT τ 0 + zT τ 1))), (2, .int (nI 1)), (0, .ref h)]) C dX6_rows_17 rfl rfl (by decide) rfl ?_
  refine w_iinc (nx := 21) (lo2 := [(2, .int (nI 2)), (1, .int (nI (0 + zT τ 0 + zT τ 1))), (0, .ref h)]) C (nI 2) 1 dX6_rows_18 rfl rfl (nI_add _ _) (by decide) rfl ?_
  refine w_goto (nx := 4) C dX6_rows_21 rfl ?_
  refine w_iload_n (nx := 5) C 0 dX6_rows_4 rfl rfl rfl ?_
  refine w_iconst (nx := 6) C (nI 4) dX6_rows_5 rfl (by decide) ?_
  refine n_icmp_ge (tg := 24) (nx := 9) C dX6_rows_6 rfl rfl (by decide) (by decide) (fun q9 => absurd q9 (by decide)) (fun _ => ?_)
  refine w_iload_n (nx := 10) C 1 dX6_rows_9 rfl rfl rfl ?_
  refine w_aload_n (nx := 11) C 2 dX6_rows_10 rfl rfl rfl ?_
  refine w_get (nx := 14) C fc6 (.ref b0) 0 0 dX6_rows_11 rfl wl_X6_9 rfl (by decide) rfl rfl ?_
  refine w_iload_n (nx := 15) C 0 dX6_rows_14 rfl rfl rfl ?_
  refine w_iald (nx := 16) C (nI (zT τ 2)) 1 2 dX6_rows_15 rfl rfl (by decide) rfl (by omega) (rT_z hT (by decide)) ?_
  refine w_iadd (nx := 17) C (nI (0 + zT τ 0 + zT τ 1 + zT τ 2)) dX6_rows_16 rfl (nI_add _ _) ?_
  refine w_istore_n (nx := 18) (lo2 := [(1, .int (nI (0 + zT τ 0 + zT τ 1 + zT τ 2))), (2, .int (nI 2)), (0, .ref h)]) C dX6_rows_17 rfl rfl (by decide) rfl ?_
  refine w_iinc (nx := 21) (lo2 := [(2, .int (nI 3)), (1, .int (nI (0 + zT τ 0 + zT τ 1 + zT τ 2))), (0, .ref h)]) C (nI 3) 1 dX6_rows_18 rfl rfl (nI_add _ _) (by decide) rfl ?_
  refine w_goto (nx := 4) C dX6_rows_21 rfl ?_
  refine w_iload_n (nx := 5) C 0 dX6_rows_4 rfl rfl rfl ?_
  refine w_iconst (nx := 6) C (nI 4) dX6_rows_5 rfl (by decide) ?_
  refine n_icmp_ge (tg := 24) (nx := 9) C dX6_rows_6 rfl rfl (by decide) (by decide) (fun q9 => absurd q9 (by decide)) (fun _ => ?_)
  refine w_iload_n (nx := 10) C 1 dX6_rows_9 rfl rfl rfl ?_
  refine w_aload_n (nx := 11) C 2 dX6_rows_10 rfl rfl rfl ?_
  refine w_get (nx := 14) C fc6 (.ref b0) 0 0 dX6_rows_11 rfl wl_X6_9 rfl (by decide) rfl rfl ?_
  refine w_iload_n (nx := 15) C 0 dX6_rows_14 rfl rfl rfl ?_
  refine w_iald (nx := 16) C (nI (zT τ 3)) 1 3 dX6_rows_15 rfl rfl (by decide) rfl (by omega) (rT_z hT (by decide)) ?_
  refine w_iadd (nx := 17) C (nI (0 + zT τ 0 + zT τ 1 + zT τ 2 + zT τ 3)) dX6_rows_16 rfl (nI_add _ _) ?_
  refine w_istore_n (nx := 18) (lo2 := [(1, .int (nI (0 + zT τ 0 + zT τ 1 + zT τ 2 + zT τ 3))), (2, .int (nI 3)), (0, .ref h)]) C dX6_rows_17 rfl rfl (by decide) rfl ?_
  refine w_iinc (nx := 21) (lo2 := [(2, .int (nI 4)), (1, .int (nI (0 + zT τ 0 + zT τ 1 + zT τ 2 + zT τ 3))), (0, .ref h)]) C (nI 4) 1 dX6_rows_18 rfl rfl (nI_add _ _) (by decide) rfl ?_
  refine w_goto (nx := 4) C dX6_rows_21 rfl ?_
  refine w_iload_n (nx := 5) C 0 dX6_rows_4 rfl rfl rfl ?_
  refine w_iconst (nx := 6) C (nI 4) dX6_rows_5 rfl (by decide) ?_
  refine n_icmp_ge (tg := 24) (nx := 9) C dX6_rows_6 rfl rfl (by decide) (by decide) (fun _ => ?_) (fun q9 => absurd (by decide) q9)
  refine w_iload_n (nx := 25) C 1 dX6_rows_24 rfl rfl rfl ?_
  exact w_iret (ty := .int) C E dX6_rows_25 rfl rfl (Nat.le_refl _) (Nat.le_refl _) ⟨rfl, rfl⟩
set_option maxHeartbeats 4000000 in
set_option maxRecDepth 100000 in
theorem c_X6_sumOfNumbers (l : Launch) (G : GG) (h : Nat) (b0 : Nat) (b1 : Nat) (b2 : Nat) (fs : Nat → Int32) (fk : Nat → Int32) (fn : Nat → Int32) (τ : TB) (hT : rT fs fk fn τ) (hw : wfT τ) : MT l G yX6_sumOfNumbers cX6_sumOfNumbers 4 (some .int) 4 0 0 [.ref h] [(h, .inr (6, [.ref b0, .ref b1, .ref b2])), (b0, aI G 4 fs), (b1, aI G 48 fk), (b2, aI G 48 fn)] (fun v9 ws9 => v9 = some (.int (nI (sumT τ 4))) ∧ ws9 = [(h, .inr (6, [.ref b0, .ref b1, .ref b2])), (b0, aI G 4 fs), (b1, aI G 48 fk), (b2, aI G 48 fn)]) := by
  refine MT.of RX6 [(0, .ref h)] (by decide +kernel) rfl rfl (Nat.le_of_ble_eq_true rfl) (fun κ C E hl9 hG9 hnm9 => ?_)
  subst hl9; subst hG9
  refine w_iconst (nx := 1) C (nI 0) dX6_sumOfNumbers_0 rfl (by decide) ?_
  refine w_istore_n (nx := 2) (lo2 := [(1, .int (nI 0)), (0, .ref h)]) C dX6_sumOfNumbers_1 rfl rfl (by decide) rfl ?_
  refine w_iconst (nx := 3) C (nI 0) dX6_sumOfNumbers_2 rfl (by decide) ?_
  refine w_istore_n (nx := 4) (lo2 := [(2, .int (nI 0)), (1, .int (nI 0)), (0, .ref h)]) C dX6_sumOfNumbers_3 rfl rfl (by decide) rfl ?_
  have LP_1 : ∀ (N9_4 : Nat) (t : Nat) (ac : Nat), (t ≤ 4) → (ac = sumT τ t) → (4 - t) < N9_4 → WW κ 0 0 [(h, .inr (6, [.ref b0, .ref b1, .ref b2])), (b0, aI (kG κ) 4 fs), (b1, aI (kG κ) 48 fk), (b2, aI (kG κ) 48 fn)] 4 [(0, .ref h), (1, .int (nI ac)), (2, .int (nI t))] [] := by
    intro N9_4
    induction N9_4 with
    | zero => intro t ac ht ha hm9_4; exact absurd hm9_4 (Nat.not_lt_zero _)
    | succ N9_4 ih9_4 =>
      intro t ac ht ha hm9_4
      refine w_iload_n (nx := 5) C 2 dX6_sumOfNumbers_4 rfl rfl rfl ?_
      refine w_iconst (nx := 6) C (nI 4) dX6_sumOfNumbers_5 rfl (by decide) ?_
      refine n_icmp_ge (tg := 42) (nx := 9) C dX6_sumOfNumbers_6 rfl rfl (by omega) (by omega) (fun h_2 => ?_) (fun h_2 => ?_)
      · refine w_iload_n (nx := 43) C 1 dX6_sumOfNumbers_42 rfl rfl rfl ?_
        exact w_iret (ty := .int) C E dX6_sumOfNumbers_43 rfl rfl (Nat.le_refl _) (Nat.le_refl _) ⟨(congrArg (fun z => some (Value.int z)) (by have e9 : t = 4 := (by omega); subst e9; rw [ha])), rfl⟩
      · refine w_iconst (nx := 10) C (nI 0) dX6_sumOfNumbers_9 rfl (by decide) ?_
        refine w_istore_n (nx := 11) (lo2 := [(3, .int (nI 0)), (0, .ref h), (1, .int (nI ac)), (2, .int (nI t))]) C dX6_sumOfNumbers_10 rfl rfl (by decide) rfl ?_
        have LP_3 : ∀ (N9_11 : Nat) (j : Nat) (ad : Nat), (j ≤ zT τ t) → (ad = ac + sN (nT τ t) j) → (zT τ t - j) < N9_11 → WW κ 0 0 [(h, .inr (6, [.ref b0, .ref b1, .ref b2])), (b0, aI (kG κ) 4 fs), (b1, aI (kG κ) 48 fk), (b2, aI (kG κ) 48 fn)] 11 [(0, .ref h), (1, .int (nI ad)), (2, .int (nI t)), (3, .int (nI j))] [] := by
          intro N9_11
          induction N9_11 with
          | zero => intro j ad hj hc hm9_11; exact absurd hm9_11 (Nat.not_lt_zero _)
          | succ N9_11 ih9_11 =>
            intro j ad hj hc hm9_11
            have hz := (hw t (by omega)).1
            refine w_iload_n (nx := 12) C 3 dX6_sumOfNumbers_11 rfl rfl rfl ?_
            refine w_aload_n (nx := 13) C 0 dX6_sumOfNumbers_12 rfl rfl rfl ?_
            refine w_get (nx := 16) C fc6 (.ref b0) 0 0 dX6_sumOfNumbers_13 rfl wl_X6_9 rfl (by decide) rfl rfl ?_
            refine w_iload_n (nx := 17) C 2 dX6_sumOfNumbers_16 rfl rfl rfl ?_
            refine w_iald (nx := 18) C (nI (zT τ t)) 1 t dX6_sumOfNumbers_17 rfl rfl (by decide) rfl (by omega) (rT_z hT (by omega)) ?_
            refine n_icmp_ge (tg := 36) (nx := 21) C dX6_sumOfNumbers_18 rfl rfl (by omega) (by omega) (fun h_4 => ?_) (fun h_4 => ?_)
            · refine w_iinc (nx := 39) (lo2 := [(2, .int (nI (t + 1))), (0, .ref h), (1, .int (nI ad)), (3, .int (nI j))]) C (nI (t + 1)) 2 dX6_sumOfNumbers_36 rfl rfl (nI_add _ _) (by decide) rfl ?_
              refine w_goto (nx := 4) C dX6_sumOfNumbers_39 rfl ?_
              refine ww_lo [1, 2, 0] (lo' := [(0, .ref h), (1, .int (nI ad)), (2, .int (nI (t + 1)))]) rfl ?_
              exact ih9_4 (t + 1) ad (by first | assumption | omega) (by have e9 : j = zT τ t := (by omega); subst e9; rw [hc, ha]; rfl) (by omega)
            · refine w_iload_n (nx := 22) C 1 dX6_sumOfNumbers_21 rfl rfl rfl ?_
              refine w_aload_n (nx := 23) C 0 dX6_sumOfNumbers_22 rfl rfl rfl ?_
              refine w_iload_n (nx := 24) C 2 dX6_sumOfNumbers_23 rfl rfl rfl ?_
              refine w_iload_n (nx := 25) C 3 dX6_sumOfNumbers_24 rfl rfl rfl ?_
              refine w_callV (nx := 28) (wr := []) (rest := [.int (nI ad)]) C mi_X6_numberAt (c_X6_numberAt _ _ h b0 b1 b2 fs fk fn τ t j (by first | assumption | omega) (by first | assumption | omega) (by first | assumption | omega) (by first | assumption | omega)) 0 dX6_sumOfNumbers_25 rfl wl_X6_31 rfl rfl rfl (pm_sel [0, 1, 2, 3] 4 (by decide +kernel) rfl rfl) rfl rfl (Nat.le_of_ble_eq_true rfl) (Nat.le_of_ble_eq_true rfl) (Nat.le_of_ble_eq_true rfl) (Nat.zero_le _) (Nat.zero_le _) (fun v9 w9 R_5 => ?_)
              obtain ⟨rfl, rfl⟩ := R_5
              show WW κ 0 0 [(h, .inr (6, [.ref b0, .ref b1, .ref b2])), (b0, aI (kG κ) 4 fs), (b1, aI (kG κ) 48 fk), (b2, aI (kG κ) 48 fn)] 28 [(0, .ref h), (1, .int (nI ad)), (2, .int (nI t)), (3, .int (nI j))] [.int (nI (nT τ t j)), .int (nI ad)]
              refine w_iadd (nx := 29) C (nI (ad + nT τ t j)) dX6_sumOfNumbers_28 rfl (nI_add _ _) ?_
              refine w_istore_n (nx := 30) (lo2 := [(1, .int (nI (ad + nT τ t j))), (0, .ref h), (2, .int (nI t)), (3, .int (nI j))]) C dX6_sumOfNumbers_29 rfl rfl (by decide) rfl ?_
              refine w_iinc (nx := 33) (lo2 := [(3, .int (nI (j + 1))), (1, .int (nI (ad + nT τ t j))), (0, .ref h), (2, .int (nI t))]) C (nI (j + 1)) 3 dX6_sumOfNumbers_30 rfl rfl (nI_add _ _) (by decide) rfl ?_
              refine w_goto (nx := 11) C dX6_sumOfNumbers_33 rfl ?_
              refine ww_lo [2, 1, 3, 0] (lo' := [(0, .ref h), (1, .int (nI (ad + nT τ t j))), (2, .int (nI t)), (3, .int (nI (j + 1)))]) rfl ?_
              exact ih9_11 (j + 1) (ad + nT τ t j) (by first | assumption | omega) (by rw [hc]; exact Nat.add_assoc _ _ _) (by omega)
        refine ww_lo [1, 2, 3, 0] (lo' := [(0, .ref h), (1, .int (nI ac)), (2, .int (nI t)), (3, .int (nI 0))]) rfl ?_
        exact LP_3 _ 0 ac (Nat.zero_le _) (rfl) (Nat.lt_succ_self _)
  refine ww_lo [2, 1, 0] (lo' := [(0, .ref h), (1, .int (nI 0)), (2, .int (nI 0))]) rfl ?_
  exact LP_1 _ 0 0 (by first | assumption | omega) (rfl) (Nat.lt_succ_self _)
set_option maxHeartbeats 4000000 in
set_option maxRecDepth 100000 in
theorem c_X6_init (l : Launch) (G : GG) (h : Nat)  : MT l G yX6_init cX6_init 1 none 1 3 100 [.ref h] [(h, .inr (6, [.null, .null, .null]))] (fun v9 ws9 => ∃ (b0 : Nat) (b1 : Nat) (b2 : Nat), v9 = none ∧ ws9 = [(h, .inr (6, [.ref b0, .ref b1, .ref b2])), (b0, aI G 4 (fun _ => 0)), (b1, aI G 48 (fun _ => 0)), (b2, aI G 48 (fun _ => 0))]) := by
  refine MT.of RX6 [(0, .ref h)] (by decide +kernel) rfl rfl (Nat.le_of_ble_eq_true rfl) (fun κ C E hl9 hG9 hnm9 => ?_)
  subst hl9; subst hG9
  refine w_aload_n (nx := 1) C 0 dX6_init_0 rfl rfl rfl ?_
  refine w_obj (nx := 4) (rest := []) C dX6_init_1 rfl wl_X6_3 (Nat.le_of_ble_eq_true rfl) (Nat.le_of_ble_eq_true rfl) ?_
  refine w_aload_n (nx := 5) C 0 dX6_init_4 rfl rfl rfl ?_
  refine w_iconst (nx := 6) C (nI 4) dX6_init_5 rfl (by decide) ?_
  refine w_newa (nx := 8) C (ty := .int) rfl 0 rfl (fun h => h) rfl wa_int 4 dX6_init_6 rfl rfl (by decide) (by decide) (Nat.le_of_ble_eq_true rfl) (Nat.le_of_ble_eq_true rfl) (fun q_1 => ?_)
  show WW κ 1 4 [(q_1, aI (kG κ) 4 (fun _ => 0)), (h, .inr (6, [.null, .null, .null]))] 8 [(0, .ref h)] [.ref q_1, .ref h]
  refine w_putF (nx := 11) (ws2 := [(q_1, aI (kG κ) 4 (fun _ => 0)), (h, .inr (6, [.ref q_1, .null, .null]))]) C fc6 1 0 hnm9 dX6_init_8 rfl wl_X6_9 rfl (by decide) rfl rfl rfl (Nat.le_of_ble_eq_true rfl) rfl ?_
  refine w_aload_n (nx := 12) C 0 dX6_init_11 rfl rfl rfl ?_
  refine w_bipush (nx := 14) C (nI 48) dX6_init_12 rfl (by decide) ?_
  refine w_newa (nx := 16) C (ty := .int) rfl 0 rfl (fun h => h) rfl wa_int 48 dX6_init_14 rfl rfl (by decide) (by decide) (Nat.le_of_ble_eq_true rfl) (Nat.le_of_ble_eq_true rfl) (fun q_2 => ?_)
  show WW κ 2 52 [(q_2, aI (kG κ) 48 (fun _ => 0)), (q_1, aI (kG κ) 4 (fun _ => 0)), (h, .inr (6, [.ref q_1, .null, .null]))] 16 [(0, .ref h)] [.ref q_2, .ref h]
  refine w_putF (nx := 19) (ws2 := [(q_2, aI (kG κ) 48 (fun _ => 0)), (q_1, aI (kG κ) 4 (fun _ => 0)), (h, .inr (6, [.ref q_1, .ref q_2, .null]))]) C fc6 2 1 hnm9 dX6_init_16 rfl wl_X6_15 rfl (by decide) rfl rfl rfl (Nat.le_of_ble_eq_true rfl) rfl ?_
  refine w_aload_n (nx := 20) C 0 dX6_init_19 rfl rfl rfl ?_
  refine w_bipush (nx := 22) C (nI 48) dX6_init_20 rfl (by decide) ?_
  refine w_newa (nx := 24) C (ty := .int) rfl 0 rfl (fun h => h) rfl wa_int 48 dX6_init_22 rfl rfl (by decide) (by decide) (Nat.le_of_ble_eq_true rfl) (Nat.le_of_ble_eq_true rfl) (fun q_3 => ?_)
  show WW κ 3 100 [(q_3, aI (kG κ) 48 (fun _ => 0)), (q_2, aI (kG κ) 48 (fun _ => 0)), (q_1, aI (kG κ) 4 (fun _ => 0)), (h, .inr (6, [.ref q_1, .ref q_2, .null]))] 24 [(0, .ref h)] [.ref q_3, .ref h]
  refine w_putF (nx := 27) (ws2 := [(q_3, aI (kG κ) 48 (fun _ => 0)), (q_2, aI (kG κ) 48 (fun _ => 0)), (q_1, aI (kG κ) 4 (fun _ => 0)), (h, .inr (6, [.ref q_1, .ref q_2, .ref q_3]))]) C fc6 3 2 hnm9 dX6_init_24 rfl wl_X6_18 rfl (by decide) rfl rfl rfl (Nat.le_of_ble_eq_true rfl) rfl ?_
  refine ww_sel (l := [(h, .inr (6, [.ref q_1, .ref q_2, .ref q_3])), (q_1, aI (kG κ) 4 (fun _ => 0)), (q_2, aI (kG κ) 48 (fun _ => 0)), (q_3, aI (kG κ) 48 (fun _ => 0))]) (pm_sel [3, 2, 1, 0] 4 (by decide +kernel) rfl rfl) ?_
  exact w_vret C E dX6_init_27 rfl (Nat.le_refl _) (Nat.le_refl _) ⟨_, _, _, rfl, rfl⟩
