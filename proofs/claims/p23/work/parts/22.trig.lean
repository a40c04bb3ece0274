set_option maxHeartbeats 4000000 in
set_option maxRecDepth 100000 in
theorem c_X7_size (l : Launch) (G : GG) (h : Nat) (s : Nat) (b : Nat) (f : Nat → Int32) (ρ : TR)  : MT l G yX7_size cX7_size 1 (some .int) 2 0 0 [.ref h] [(h, .inr (7, [.ref s])), (s, .inr (4, [.int (nI 12), .int (nI 8), .ref b, .int (nI ρ.1)])), (b, aI G 96 f)] (fun v9 ws9 => v9 = some (.int (nI ρ.1)) ∧ ws9 = [(h, .inr (7, [.ref s])), (s, .inr (4, [.int (nI 12), .int (nI 8), .ref b, .int (nI ρ.1)])), (b, aI G 96 f)]) := by
  refine MT.of RX7 [(0, .ref h)] (by decide +kernel) rfl rfl (Nat.le_of_ble_eq_true rfl) (fun κ C E hl9 hG9 hnm9 => ?_)
  subst hl9; subst hG9
  refine w_aload_n (nx := 1) C 0 dX7_size_0 rfl rfl rfl ?_
  refine w_get (nx := 4) C fc7 (.ref s) 0 0 dX7_size_1 rfl wl_X7_16 rfl (by decide) rfl rfl ?_
  refine w_callV (nx := 7) (wr := [(h, .inr (7, [.ref s]))]) (rest := []) C mi_X4_size (c_X4_size _ _ s b 12 8 ρ.1 96 f) 0 dX7_size_4 rfl wl_X7_24 rfl rfl rfl (pm_sel [1, 2, 0] 3 (by decide +kernel) rfl rfl) rfl rfl (Nat.le_of_ble_eq_true rfl) (Nat.le_of_ble_eq_true rfl) (Nat.le_of_ble_eq_true rfl) (Nat.zero_le _) (Nat.zero_le _) (fun v9 w9 R_1 => ?_)
  obtain ⟨rfl, rfl⟩ := R_1
  show WW κ 0 0 [(s, .inr (4, [.int (nI 12), .int (nI 8), .ref b, .int (nI ρ.1)])), (b, aI (kG κ) 96 f), (h, .inr (7, [.ref s]))] 7 [(0, .ref h)] [.int (nI ρ.1)]
  refine ww_sel (l := [(h, .inr (7, [.ref s])), (s, .inr (4, [.int (nI 12), .int (nI 8), .ref b, .int (nI ρ.1)])), (b, aI (kG κ) 96 f)]) (pm_sel [2, 0, 1] 3 (by decide +kernel) rfl rfl) ?_
  exact w_iret (ty := .int) C E dX7_size_7 rfl rfl (Nat.le_refl _) (Nat.le_refl _) ⟨rfl, rfl⟩
set_option maxHeartbeats 4000000 in
set_option maxRecDepth 100000 in
theorem c_X7_get (l : Launch) (G : GG) (h : Nat) (s : Nat) (b : Nat) (f : Nat → Int32) (ρ : TR) (i : Nat) (c : Nat) (hR : rR f ρ) (hw : wfR ρ) (hi : i < ρ.1) (hc : c < 8) : MT l G yX7_get cX7_get 3 (some .int) 2 0 0 [.ref h, .int (nI i), .int (nI c)] [(h, .inr (7, [.ref s])), (s, .inr (4, [.int (nI 12), .int (nI 8), .ref b, .int (nI ρ.1)])), (b, aI G 96 f)] (fun v9 ws9 => v9 = some (.int (nI (ρ.2 i c))) ∧ ws9 = [(h, .inr (7, [.ref s])), (s, .inr (4, [.int (nI 12), .int (nI 8), .ref b, .int (nI ρ.1)])), (b, aI G 96 f)]) := by
  refine MT.of RX7 [(0, .ref h), (1, .int (nI i)), (2, .int (nI c))] (by decide +kernel) rfl rfl (Nat.le_of_ble_eq_true rfl) (fun κ C E hl9 hG9 hnm9 => ?_)
  subst hl9; subst hG9
  have hn12 := hw.1
  refine w_aload_n (nx := 1) C 0 dX7_get_0 rfl rfl rfl ?_
  refine w_get (nx := 4) C fc7 (.ref s) 0 0 dX7_get_1 rfl wl_X7_16 rfl (by decide) rfl rfl ?_
  refine w_iload_n (nx := 5) C 1 dX7_get_4 rfl rfl rfl ?_
  refine w_iload_n (nx := 6) C 2 dX7_get_5 rfl rfl rfl ?_
  refine w_callV (nx := 9) (wr := [(h, .inr (7, [.ref s]))]) (rest := []) C mi_X4_get (c_X4_get_n _ _ s b 12 8 ρ.1 96 f i c (ρ.2 i c) (by first | assumption | omega) (by first | assumption | omega) (by first | assumption | omega) (by first | assumption | omega) (by first | assumption | omega) (by first | assumption | omega) (by first | assumption | omega) (hR i hi c hc)) 0 dX7_get_6 rfl wl_X7_28 rfl rfl rfl (pm_sel [1, 2, 0] 3 (by decide +kernel) rfl rfl) rfl rfl (Nat.le_of_ble_eq_true rfl) (Nat.le_of_ble_eq_true rfl) (Nat.le_of_ble_eq_true rfl) (Nat.zero_le _) (Nat.zero_le _) (fun v9 w9 R_1 => ?_)
  obtain ⟨rfl, rfl⟩ := R_1
  show WW κ 0 0 [(s, .inr (4, [.int (nI 12), .int (nI 8), .ref b, .int (nI ρ.1)])), (b, aI (kG κ) 96 f), (h, .inr (7, [.ref s]))] 9 [(0, .ref h), (1, .int (nI i)), (2, .int (nI c))] [.int (nI (ρ.2 i c))]
  refine ww_sel (l := [(h, .inr (7, [.ref s])), (s, .inr (4, [.int (nI 12), .int (nI 8), .ref b, .int (nI ρ.1)])), (b, aI (kG κ) 96 f)]) (pm_sel [2, 0, 1] 3 (by decide +kernel) rfl rfl) ?_
  exact w_iret (ty := .int) C E dX7_get_9 rfl rfl (Nat.le_refl _) (Nat.le_refl _) ⟨rfl, rfl⟩
set_option maxHeartbeats 4000000 in
set_option maxRecDepth 100000 in
theorem c_X7_giveDeed (l : Launch) (G : GG) (h : Nat) (s : Nat) (b : Nat) (f : Nat → Int32) (k : Nat) (i : Nat) (d : Nat) (t : Nat) (s2 : Nat) (m : Nat) (hk : k ≤ 12) (hi : i < k) : MT l G yX7_giveDeed cX7_giveDeed 6 none 2 0 0 [.ref h, .int (nI i), .int (nI d), .int (nI t), .int (nI s2), .int (nI m)] [(h, .inr (7, [.ref s])), (s, .inr (4, [.int (nI 12), .int (nI 8), .ref b, .int (nI k)])), (b, aI G 96 f)] (fun v9 ws9 => v9 = none ∧ ws9 = [(h, .inr (7, [.ref s])), (s, .inr (4, [.int (nI 12), .int (nI 8), .ref b, .int (nI k)])), (b, aI G 96 (upd (upd (upd (upd f (i * 8 + 4) (nI d)) (i * 8 + 5) (nI t)) (i * 8 + 6) (nI s2)) (i * 8 + 7) (nI m)))]) := by
  refine MT.of RX7 [(0, .ref h), (1, .int (nI i)), (2, .int (nI d)), (3, .int (nI t)), (4, .int (nI s2)), (5, .int (nI m))] (by decide +kernel) rfl rfl (Nat.le_of_ble_eq_true rfl) (fun κ C E hl9 hG9 hnm9 => ?_)
  subst hl9; subst hG9
  refine w_aload_n (nx := 1) C 0 dX7_giveDeed_0 rfl rfl rfl ?_
  refine w_get (nx := 4) C fc7 (.ref s) 0 0 dX7_giveDeed_1 rfl wl_X7_16 rfl (by decide) rfl rfl ?_
  refine w_iload_n (nx := 5) C 1 dX7_giveDeed_4 rfl rfl rfl ?_
  refine w_iconst (nx := 6) C (nI 4) dX7_giveDeed_5 rfl (by decide) ?_
  refine w_iload_n (nx := 7) C 2 dX7_giveDeed_6 rfl rfl rfl ?_
  refine w_callV (nx := 10) (wr := [(h, .inr (7, [.ref s]))]) (rest := []) C mi_X4_change (c_X4_change _ _ s b 12 8 k 96 f i 4 (nI d) (by first | assumption | omega) (by first | assumption | omega) (by first | assumption | omega) (by first | assumption | omega) (by first | assumption | omega) (by first | assumption | omega) (by first | assumption | omega)) 0 dX7_giveDeed_7 rfl wl_X7_35 rfl rfl rfl (pm_sel [1, 2, 0] 3 (by decide +kernel) rfl rfl) rfl rfl (Nat.le_of_ble_eq_true rfl) (Nat.le_of_ble_eq_true rfl) (Nat.le_of_ble_eq_true rfl) (Nat.zero_le _) (Nat.zero_le _) (fun v9 w9 R_1 => ?_)
  obtain ⟨rfl, rfl⟩ := R_1
  show WW κ 0 0 [(s, .inr (4, [.int (nI 12), .int (nI 8), .ref b, .int (nI k)])), (b, aI (kG κ) 96 (upd f (i * 8 + 4) (nI d))), (h, .inr (7, [.ref s]))] 10 [(0, .ref h), (1, .int (nI i)), (2, .int (nI d)), (3, .int (nI t)), (4, .int (nI s2)), (5, .int (nI m))] []
  refine w_aload_n (nx := 11) C 0 dX7_giveDeed_10 rfl rfl rfl ?_
  refine w_get (nx := 14) C fc7 (.ref s) 2 0 dX7_giveDeed_11 rfl wl_X7_16 rfl (by decide) rfl rfl ?_
  refine w_iload_n (nx := 15) C 1 dX7_giveDeed_14 rfl rfl rfl ?_
  refine w_iconst (nx := 16) C (nI 5) dX7_giveDeed_15 rfl (by decide) ?_
  refine w_iload_n (nx := 17) C 3 dX7_giveDeed_16 rfl rfl rfl ?_
  refine w_callV (nx := 20) (wr := [(h, .inr (7, [.ref s]))]) (rest := []) C mi_X4_change (c_X4_change _ _ s b 12 8 k 96 (upd f (i * 8 + 4) (nI d)) i 5 (nI t) (by first | assumption | omega) (by first | assumption | omega) (by first | assumption | omega) (by first | assumption | omega) (by first | assumption | omega) (by first | assumption | omega) (by first | assumption | omega)) 0 dX7_giveDeed_17 rfl wl_X7_35 rfl rfl rfl (pm_sel [0, 1, 2] 3 (by decide +kernel) rfl rfl) rfl rfl (Nat.le_of_ble_eq_true rfl) (Nat.le_of_ble_eq_true rfl) (Nat.le_of_ble_eq_true rfl) (Nat.zero_le _) (Nat.zero_le _) (fun v9 w9 R_2 => ?_)
  obtain ⟨rfl, rfl⟩ := R_2
  show WW κ 0 0 [(s, .inr (4, [.int (nI 12), .int (nI 8), .ref b, .int (nI k)])), (b, aI (kG κ) 96 (upd (upd f (i * 8 + 4) (nI d)) (i * 8 + 5) (nI t))), (h, .inr (7, [.ref s]))] 20 [(0, .ref h), (1, .int (nI i)), (2, .int (nI d)), (3, .int (nI t)), (4, .int (nI s2)), (5, .int (nI m))] []
  refine w_aload_n (nx := 21) C 0 dX7_giveDeed_20 rfl rfl rfl ?_
  refine w_get (nx := 24) C fc7 (.ref s) 2 0 dX7_giveDeed_21 rfl wl_X7_16 rfl (by decide) rfl rfl ?_
  refine w_iload_n (nx := 25) C 1 dX7_giveDeed_24 rfl rfl rfl ?_
  refine w_bipush (nx := 27) C (nI 6) dX7_giveDeed_25 rfl (by decide) ?_
  refine w_iload (nx := 29) C 4 dX7_giveDeed_27 rfl rfl ?_
  refine w_callV (nx := 32) (wr := [(h, .inr (7, [.ref s]))]) (rest := []) C mi_X4_change (c_X4_change _ _ s b 12 8 k 96 (upd (upd f (i * 8 + 4) (nI d)) (i * 8 + 5) (nI t)) i 6 (nI s2) (by first | assumption | omega) (by first | assumption | omega) (by first | assumption | omega) (by first | assumption | omega) (by first | assumption | omega) (by first | assumption | omega) (by first | assumption | omega)) 0 dX7_giveDeed_29 rfl wl_X7_35 rfl rfl rfl (pm_sel [0, 1, 2] 3 (by decide +kernel) rfl rfl) rfl rfl (Nat.le_of_ble_eq_true rfl) (Nat.le_of_ble_eq_true rfl) (Nat.le_of_ble_eq_true rfl) (Nat.zero_le _) (Nat.zero_le _) (fun v9 w9 R_3 => ?_)
  obtain ⟨rfl, rfl⟩ := R_3
  show WW κ 0 0 [(s, .inr (4, [.int (nI 12), .int (nI 8), .ref b, .int (nI k)])), (b, aI (kG κ) 96 (upd (upd (upd f (i * 8 + 4) (nI d)) (i * 8 + 5) (nI t)) (i * 8 + 6) (nI s2))), (h, .inr (7, [.ref s]))] 32 [(0, .ref h), (1, .int (nI i)), (2, .int (nI d)), (3, .int (nI t)), (4, .int (nI s2)), (5, .int (nI m))] []
  refine w_aload_n (nx := 33) C 0 dX7_giveDeed_32 rfl rfl rfl ?_
  refine w_get (nx := 36) C fc7 (.ref s) 2 0 dX7_giveDeed_33 rfl wl_X7_16 rfl (by decide) rfl rfl ?_
  refine w_iload_n (nx := 37) C 1 dX7_giveDeed_36 rfl rfl rfl ?_
  refine w_bipush (nx := 39) C (nI 7) dX7_giveDeed_37 rfl (by decide) ?_
  refine w_iload (nx := 41) C 5 dX7_giveDeed_39 rfl rfl ?_
  refine w_callV (nx := 44) (wr := [(h, .inr (7, [.ref s]))]) (rest := []) C mi_X4_change (c_X4_change _ _ s b 12 8 k 96 (upd (upd (upd f (i * 8 + 4) (nI d)) (i * 8 + 5) (nI t)) (i * 8 + 6) (nI s2)) i 7 (nI m) (by first | assumption | omega) (by first | assumption | omega) (by first | assumption | omega) (by first | assumption | omega) (by first | assumption | omega) (by first | assumption | omega) (by first | assumption | omega)) 0 dX7_giveDeed_41 rfl wl_X7_35 rfl rfl rfl (pm_sel [0, 1, 2] 3 (by decide +kernel) rfl rfl) rfl rfl (Nat.le_of_ble_eq_true rfl) (Nat.le_of_ble_eq_true rfl) (Nat.le_of_ble_eq_true rfl) (Nat.zero_le _) (Nat.zero_le _) (fun v9 w9 R_4 => ?_)
  obtain ⟨rfl, rfl⟩ := R_4
  show WW κ 0 0 [(s, .inr (4, [.int (nI 12), .int (nI 8), .ref b, .int (nI k)])), (b, aI (kG κ) 96 (upd (upd (upd (upd f (i * 8 + 4) (nI d)) (i * 8 + 5) (nI t)) (i * 8 + 6) (nI s2)) (i * 8 + 7) (nI m))), (h, .inr (7, [.ref s]))] 44 [(0, .ref h), (1, .int (nI i)), (2, .int (nI d)), (3, .int (nI t)), (4, .int (nI s2)), (5, .int (nI m))] []
  refine ww_sel (l := [(h, .inr (7, [.ref s])), (s, .inr (4, [.int (nI 12), .int (nI 8), .ref b, .int (nI k)])), (b, aI (kG κ) 96 (upd (upd (upd (upd f (i * 8 + 4) (nI d)) (i * 8 + 5) (nI t)) (i * 8 + 6) (nI s2)) (i * 8 + 7) (nI m)))]) (pm_sel [2, 0, 1] 3 (by decide +kernel) rfl rfl) ?_
  exact w_vret C E dX7_giveDeed_44 rfl (Nat.le_refl _) (Nat.le_refl _) ⟨rfl, rfl⟩
set_option maxHeartbeats 4000000 in
set_option maxRecDepth 100000 in
theorem c_X7_append (l : Launch) (G : GG) (h : Nat) (s : Nat) (b : Nat) (f : Nat → Int32) (ρ : TR) (t : Nat) (k : Nat) (s2 : Nat) (b2 : Nat) (hR : rR f ρ) (hw : wfR ρ) (hn : ρ.1 < 12) : MT l G yX7_append cX7_append 6 (some .int) 3 0 0 [.ref h, .int (nI t), .int (nI k), .int (nI s2), .int (nI b2)] [(h, .inr (7, [.ref s])), (s, .inr (4, [.int (nI 12), .int (nI 8), .ref b, .int (nI ρ.1)])), (b, aI G 96 f)] (fun v9 ws9 => ∃ (f2 : Nat → Int32), v9 = some (.int (nI ρ.1)) ∧ ws9 = [(h, .inr (7, [.ref s])), (s, .inr (4, [.int (nI 12), .int (nI 8), .ref b, .int (nI (ρ.1 + 1))])), (b, aI G 96 f2)] ∧ rR f2 (addR ρ t k s2 b2)) := by
  refine MT.of RX7 [(0, .ref h), (1, .int (nI t)), (2, .int (nI k)), (3, .int (nI s2)), (4, .int (nI b2))] (by decide +kernel) rfl rfl (Nat.le_of_ble_eq_true rfl) (fun κ C E hl9 hG9 hnm9 => ?_)
  subst hl9; subst hG9
  have hn12 := hw.1
  refine w_aload_n (nx := 1) C 0 dX7_append_0 rfl rfl rfl ?_
  refine w_get (nx := 4) C fc7 (.ref s) 0 0 dX7_append_1 rfl wl_X7_16 rfl (by decide) rfl rfl ?_
  refine w_callV (nx := 7) (wr := [(h, .inr (7, [.ref s]))]) (rest := []) C mi_X4_append (c_X4_append _ _ s b 12 8 ρ.1 96 f (by first | assumption | omega) (by first | assumption | omega) (by first | assumption | omega) (by first | assumption | omega) (by first | assumption | omega)) 0 dX7_append_4 rfl wl_X7_32 rfl rfl rfl (pm_sel [1, 2, 0] 3 (by decide +kernel) rfl rfl) rfl rfl (Nat.le_of_ble_eq_true rfl) (Nat.le_of_ble_eq_true rfl) (Nat.le_of_ble_eq_true rfl) (Nat.zero_le _) (Nat.zero_le _) (fun v9 w9 R_1 => ?_)
  obtain ⟨rfl, rfl⟩ := R_1
  show WW κ 0 0 [(s, .inr (4, [.int (nI 12), .int (nI 8), .ref b, .int (nI (ρ.1 + 1))])), (b, aI (kG κ) 96 f), (h, .inr (7, [.ref s]))] 7 [(0, .ref h), (1, .int (nI t)), (2, .int (nI k)), (3, .int (nI s2)), (4, .int (nI b2))] [.int (nI ρ.1)]
  refine w_istore (nx := 9) (lo2 := [(5, .int (nI ρ.1)), (0, .ref h), (1, .int (nI t)), (2, .int (nI k)), (3, .int (nI s2)), (4, .int (nI b2))]) C dX7_append_7 rfl (by decide) rfl ?_
  refine w_aload_n (nx := 10) C 1 dX7_append_9 rfl rfl rfl ?_
  refine w_get (nx := 13) C fc7 (.ref s) 2 0 dX7_append_10 rfl wl_X7_16 rfl (by decide) rfl rfl ?_
  refine w_iload (nx := 15) C 0 dX7_append_13 rfl rfl ?_
  refine w_iconst (nx := 16) C (nI 0) dX7_append_15 rfl (by decide) ?_
  refine w_iload_n (nx := 17) C 2 dX7_append_16 rfl rfl rfl ?_
  refine w_callV (nx := 20) (wr := [(h, .inr (7, [.ref s]))]) (rest := []) C mi_X4_change (c_X4_change _ _ s b 12 8 (ρ.1 + 1) 96 f ρ.1 0 (nI t) (by first | assumption | omega) (by first | assumption | omega) (by first | assumption | omega) (by first | assumption | omega) (by first | assumption | omega) (by first | assumption | omega) (by first | assumption | omega)) 0 dX7_append_17 rfl wl_X7_35 rfl rfl rfl (pm_sel [0, 1, 2] 3 (by decide +kernel) rfl rfl) rfl rfl (Nat.le_of_ble_eq_true rfl) (Nat.le_of_ble_eq_true rfl) (Nat.le_of_ble_eq_true rfl) (Nat.zero_le _) (Nat.zero_le _) (fun v9 w9 R_2 => ?_)
  obtain ⟨rfl, rfl⟩ := R_2
  show WW κ 0 0 [(s, .inr (4, [.int (nI 12), .int (nI 8), .ref b, .int (nI (ρ.1 + 1))])), (b, aI (kG κ) 96 (upd f (ρ.1 * 8 + 0) (nI t))), (h, .inr (7, [.ref s]))] 20 [(5, .int (nI ρ.1)), (0, .ref h), (1, .int (nI t)), (2, .int (nI k)), (3, .int (nI s2)), (4, .int (nI b2))] []
  refine w_aload_n (nx := 21) C 1 dX7_append_20 rfl rfl rfl ?_
  refine w_get (nx := 24) C fc7 (.ref s) 2 0 dX7_append_21 rfl wl_X7_16 rfl (by decide) rfl rfl ?_
  refine w_iload (nx := 26) C 0 dX7_append_24 rfl rfl ?_
  refine w_iconst (nx := 27) C (nI 1) dX7_append_26 rfl (by decide) ?_
  refine w_iload_n (nx := 28) C 3 dX7_append_27 rfl rfl rfl ?_
  refine w_callV (nx := 31) (wr := [(h, .inr (7, [.ref s]))]) (rest := []) C mi_X4_change (c_X4_change _ _ s b 12 8 (ρ.1 + 1) 96 (upd f (ρ.1 * 8 + 0) (nI t)) ρ.1 1 (nI k) (by first | assumption | omega) (by first | assumption | omega) (by first | assumption | omega) (by first | assumption | omega) (by first | assumption | omega) (by first | assumption | omega) (by first | assumption | omega)) 0 dX7_append_28 rfl wl_X7_35 rfl rfl rfl (pm_sel [0, 1, 2] 3 (by decide +kernel) rfl rfl) rfl rfl (Nat.le_of_ble_eq_true rfl) (Nat.le_of_ble_eq_true rfl) (Nat.le_of_ble_eq_true rfl) (Nat.zero_le _) (Nat.zero_le _) (fun v9 w9 R_3 => ?_)
  obtain ⟨rfl, rfl⟩ := R_3
  show WW κ 0 0 [(s, .inr (4, [.int (nI 12), .int (nI 8), .ref b, .int (nI (ρ.1 + 1))])), (b, aI (kG κ) 96 (upd (upd f (ρ.1 * 8 + 0) (nI t)) (ρ.1 * 8 + 1) (nI k))), (h, .inr (7, [.ref s]))] 31 [(5, .int (nI ρ.1)), (0, .ref h), (1, .int (nI t)), (2, .int (nI k)), (3, .int (nI s2)), (4, .int (nI b2))] []
  refine w_aload_n (nx := 32) C 1 dX7_append_31 rfl rfl rfl ?_
  refine w_get (nx := 35) C fc7 (.ref s) 2 0 dX7_append_32 rfl wl_X7_16 rfl (by decide) rfl rfl ?_
  refine w_iload (nx := 37) C 0 dX7_append_35 rfl rfl ?_
  refine w_iconst (nx := 38) C (nI 2) dX7_append_37 rfl (by decide) ?_
  refine w_iload_n (nx := 39) C 4 dX7_append_38 rfl rfl rfl ?_
  refine w_callV (nx := 42) (wr := [(h, .inr (7, [.ref s]))]) (rest := []) C mi_X4_change (c_X4_change _ _ s b 12 8 (ρ.1 + 1) 96 (upd (upd f (ρ.1 * 8 + 0) (nI t)) (ρ.1 * 8 + 1) (nI k)) ρ.1 2 (nI s2) (by first | assumption | omega) (by first | assumption | omega) (by first | assumption | omega) (by first | assumption | omega) (by first | assumption | omega) (by first | assumption | omega) (by first | assumption | omega)) 0 dX7_append_39 rfl wl_X7_35 rfl rfl rfl (pm_sel [0, 1, 2] 3 (by decide +kernel) rfl rfl) rfl rfl (Nat.le_of_ble_eq_true rfl) (Nat.le_of_ble_eq_true rfl) (Nat.le_of_ble_eq_true rfl) (Nat.zero_le _) (Nat.zero_le _) (fun v9 w9 R_4 => ?_)
  obtain ⟨rfl, rfl⟩ := R_4
  show WW κ 0 0 [(s, .inr (4, [.int (nI 12), .int (nI 8), .ref b, .int (nI (ρ.1 + 1))])), (b, aI (kG κ) 96 (upd (upd (upd f (ρ.1 * 8 + 0) (nI t)) (ρ.1 * 8 + 1) (nI k)) (ρ.1 * 8 + 2) (nI s2))), (h, .inr (7, [.ref s]))] 42 [(5, .int (nI ρ.1)), (0, .ref h), (1, .int (nI t)), (2, .int (nI k)), (3, .int (nI s2)), (4, .int (nI b2))] []
  refine w_aload_n (nx := 43) C 1 dX7_append_42 rfl rfl rfl ?_
  refine w_get (nx := 46) C fc7 (.ref s) 2 0 dX7_append_43 rfl wl_X7_16 rfl (by decide) rfl rfl ?_
  refine w_iload (nx := 48) C 0 dX7_append_46 rfl rfl ?_
  refine w_iconst (nx := 49) C (nI 3) dX7_append_48 rfl (by decide) ?_
  refine w_iload (nx := 51) C 5 dX7_append_49 rfl rfl ?_
  refine w_callV (nx := 54) (wr := [(h, .inr (7, [.ref s]))]) (rest := []) C mi_X4_change (c_X4_change _ _ s b 12 8 (ρ.1 + 1) 96 (upd (upd (upd f (ρ.1 * 8 + 0) (nI t)) (ρ.1 * 8 + 1) (nI k)) (ρ.1 * 8 + 2) (nI s2)) ρ.1 3 (nI b2) (by first | assumption | omega) (by first | assumption | omega) (by first | assumption | omega) (by first | assumption | omega) (by first | assumption | omega) (by first | assumption | omega) (by first | assumption | omega)) 0 dX7_append_51 rfl wl_X7_35 rfl rfl rfl (pm_sel [0, 1, 2] 3 (by decide +kernel) rfl rfl) rfl rfl (Nat.le_of_ble_eq_true rfl) (Nat.le_of_ble_eq_true rfl) (Nat.le_of_ble_eq_true rfl) (Nat.zero_le _) (Nat.zero_le _) (fun v9 w9 R_5 => ?_)
  obtain ⟨rfl, rfl⟩ := R_5
  show WW κ 0 0 [(s, .inr (4, [.int (nI 12), .int (nI 8), .ref b, .int (nI (ρ.1 + 1))])), (b, aI (kG κ) 96 (upd (upd (upd (upd f (ρ.1 * 8 + 0) (nI t)) (ρ.1 * 8 + 1) (nI k)) (ρ.1 * 8 + 2) (nI s2)) (ρ.1 * 8 + 3) (nI b2))), (h, .inr (7, [.ref s]))] 54 [(5, .int (nI ρ.1)), (0, .ref h), (1, .int (nI t)), (2, .int (nI k)), (3, .int (nI s2)), (4, .int (nI b2))] []
  refine w_aload_n (nx := 55) C 1 dX7_append_54 rfl rfl rfl ?_
  refine w_iload (nx := 57) C 0 dX7_append_55 rfl rfl ?_
  refine w_iconst (nx := 58) C (nI 0) dX7_append_57 rfl (by decide) ?_
  refine w_iconst (nx := 59) C (nI 0) dX7_append_58 rfl (by decide) ?_
  refine w_iconst (nx := 60) C (nI 0) dX7_append_59 rfl (by decide) ?_
  refine w_iconst (nx := 61) C (nI 0) dX7_append_60 rfl (by decide) ?_
  refine w_callV (nx := 64) (wr := []) (rest := []) C mi_X7_giveDeed (c_X7_giveDeed _ _ h s b (upd (upd (upd (upd f (ρ.1 * 8 + 0) (nI t)) (ρ.1 * 8 + 1) (nI k)) (ρ.1 * 8 + 2) (nI s2)) (ρ.1 * 8 + 3) (nI b2)) (ρ.1 + 1) ρ.1 0 0 0 0 (by first | assumption | omega) (by first | assumption | omega)) 0 dX7_append_61 rfl wl_X7_39 rfl rfl rfl (pm_sel [2, 0, 1] 3 (by decide +kernel) rfl rfl) rfl rfl (Nat.le_of_ble_eq_true rfl) (Nat.le_of_ble_eq_true rfl) (Nat.le_of_ble_eq_true rfl) (Nat.zero_le _) (Nat.zero_le _) (fun v9 w9 R_6 => ?_)
  obtain ⟨rfl, rfl⟩ := R_6
  show WW κ 0 0 [(h, .inr (7, [.ref s])), (s, .inr (4, [.int (nI 12), .int (nI 8), .ref b, .int (nI (ρ.1 + 1))])), (b, aI (kG κ) 96 (upd (upd (upd (upd (upd (upd (upd (upd f (ρ.1 * 8 + 0) (nI t)) (ρ.1 * 8 + 1) (nI k)) (ρ.1 * 8 + 2) (nI s2)) (ρ.1 * 8 + 3) (nI b2)) (ρ.1 * 8 + 4) (nI 0)) (ρ.1 * 8 + 5) (nI 0)) (ρ.1 * 8 + 6) (nI 0)) (ρ.1 * 8 + 7) (nI 0)))] 64 [(5, .int (nI ρ.1)), (0, .ref h), (1, .int (nI t)), (2, .int (nI k)), (3, .int (nI s2)), (4, .int (nI b2))] []
  refine w_iload (nx := 66) C 0 dX7_append_64 rfl rfl ?_
  exact w_iret (ty := .int) C E dX7_append_66 rfl rfl (Nat.le_refl _) (Nat.le_refl _) ⟨_, rfl, rfl, (rR_add hR)⟩
set_option maxHeartbeats 4000000 in
set_option maxRecDepth 100000 in
theorem c_X7_remove (l : Launch) (G : GG) (h : Nat) (s : Nat) (b : Nat) (f : Nat → Int32) (ρ : TR) (i : Nat) (hR : rR f ρ) (hw : wfR ρ) (hi : i < ρ.1) : MT l G yX7_remove cX7_remove 2 none 2 0 0 [.ref h, .int (nI i)] [(h, .inr (7, [.ref s])), (s, .inr (4, [.int (nI 12), .int (nI 8), .ref b, .int (nI ρ.1)])), (b, aI G 96 f)] (fun v9 ws9 => ∃ (f2 : Nat → Int32), v9 = none ∧ ws9 = [(h, .inr (7, [.ref s])), (s, .inr (4, [.int (nI 12), .int (nI 8), .ref b, .int (nI (ρ.1 - 1))])), (b, aI G 96 f2)] ∧ rR f2 (drpR ρ i)) := by
  refine MT.of RX7 [(0, .ref h), (1, .int (nI i))] (by decide +kernel) rfl rfl (Nat.le_of_ble_eq_true rfl) (fun κ C E hl9 hG9 hnm9 => ?_)
  subst hl9; subst hG9
  have hn12 := hw.1
  refine w_aload_n (nx := 1) C 0 dX7_remove_0 rfl rfl rfl ?_
  refine w_get (nx := 4) C fc7 (.ref s) 0 0 dX7_remove_1 rfl wl_X7_16 rfl (by decide) rfl rfl ?_
  refine w_iload_n (nx := 5) C 1 dX7_remove_4 rfl rfl rfl ?_
  refine w_callV (nx := 8) (wr := [(h, .inr (7, [.ref s]))]) (rest := []) C mi_X4_remove (c_X4_remove _ _ s b ρ.1 f i (by first | assumption | omega) (by first | assumption | omega)) 0 dX7_remove_5 rfl wl_X7_43 rfl rfl rfl (pm_sel [1, 2, 0] 3 (by decide +kernel) rfl rfl) rfl rfl (Nat.le_of_ble_eq_true rfl) (Nat.le_of_ble_eq_true rfl) (Nat.le_of_ble_eq_true rfl) (Nat.zero_le _) (Nat.zero_le _) (fun v9 w9 R_1 => ?_)
  obtain ⟨f2_2, rfl, rfl, h1_3, h2_4⟩ := R_1
  show WW κ 0 0 [(s, .inr (4, [.int (nI 12), .int (nI 8), .ref b, .int (nI (ρ.1 - 1))])), (b, aI (kG κ) 96 f2_2), (h, .inr (7, [.ref s]))] 8 [(0, .ref h), (1, .int (nI i))] []
  have hf := rR_drp hR h1_3 h2_4
  refine ww_sel (l := [(h, .inr (7, [.ref s])), (s, .inr (4, [.int (nI 12), .int (nI 8), .ref b, .int (nI (ρ.1 - 1))])), (b, aI (kG κ) 96 f2_2)]) (pm_sel [2, 0, 1] 3 (by decide +kernel) rfl rfl) ?_
  exact w_vret C E dX7_remove_8 rfl (Nat.le_refl _) (Nat.le_refl _) ⟨_, rfl, rfl, (hf)⟩
set_option maxHeartbeats 4000000 in
set_option maxRecDepth 100000 in
theorem c_X7_copyFrom (l : Launch) (G : GG) (h : Nat) (s : Nat) (b : Nat) (f : Nat → Int32) (h2 : Nat) (s2 : Nat) (b2 : Nat) (g : Nat → Int32) (x : Int32) (ρ : TR) (hR : rR g ρ) (hw : wfR ρ) : MT l G yX7_copyFrom cX7_copyFrom 2 none 2 0 0 [.ref h, .ref h2] [(h, .inr (7, [.ref s])), (s, .inr (4, [.int (nI 12), .int (nI 8), .ref b, .int x])), (b, aI G 96 f), (h2, .inr (7, [.ref s2])), (s2, .inr (4, [.int (nI 12), .int (nI 8), .ref b2, .int (nI ρ.1)])), (b2, aI G 96 g)] (fun v9 ws9 => ∃ (f2 : Nat → Int32), v9 = none ∧ ws9 = [(h, .inr (7, [.ref s])), (s, .inr (4, [.int (nI 12), .int (nI 8), .ref b, .int (nI ρ.1)])), (b, aI G 96 f2), (h2, .inr (7, [.ref s2])), (s2, .inr (4, [.int (nI 12), .int (nI 8), .ref b2, .int (nI ρ.1)])), (b2, aI G 96 g)] ∧ rR f2 ρ) := by
  refine MT.of RX7 [(0, .ref h), (1, .ref h2)] (by decide +kernel) rfl rfl (Nat.le_of_ble_eq_true rfl) (fun κ C E hl9 hG9 hnm9 => ?_)
  subst hl9; subst hG9
  have hn12 := hw.1
  refine w_aload_n (nx := 1) C 0 dX7_copyFrom_0 rfl rfl rfl ?_
  refine w_get (nx := 4) C fc7 (.ref s) 0 0 dX7_copyFrom_1 rfl wl_X7_16 rfl (by decide) rfl rfl ?_
  refine w_aload_n (nx := 5) C 1 dX7_copyFrom_4 rfl rfl rfl ?_
  refine w_get (nx := 8) C fc7 (.ref s2) 3 0 dX7_copyFrom_5 rfl wl_X7_16 rfl (by decide) rfl rfl ?_
  refine w_callV (nx := 11) (wr := [(h, .inr (7, [.ref s])), (h2, .inr (7, [.ref s2]))]) (rest := []) C mi_X4_copyFrom (c_X4_copyFrom _ _ s b 12 8 ρ.1 96 g s2 b2 f x (by first | assumption | omega) (by first | assumption | omega) (by first | assumption | omega) (by first | assumption | omega) (by first | assumption | omega)) 0 dX7_copyFrom_8 rfl wl_X7_20 rfl rfl rfl (pm_sel [1, 2, 4, 5, 0, 3] 6 (by decide +kernel) rfl rfl) rfl rfl (Nat.le_of_ble_eq_true rfl) (Nat.le_of_ble_eq_true rfl) (Nat.le_of_ble_eq_true rfl) (Nat.zero_le _) (Nat.zero_le _) (fun v9 w9 R_1 => ?_)
  obtain ⟨g2_2, rfl, rfl, hc_3⟩ := R_1
  show WW κ 0 0 [(s, .inr (4, [.int (nI 12), .int (nI 8), .ref b, .int (nI ρ.1)])), (b, aI (kG κ) 96 g2_2), (s2, .inr (4, [.int (nI 12), .int (nI 8), .ref b2, .int (nI ρ.1)])), (b2, aI (kG κ) 96 g), (h, .inr (7, [.ref s])), (h2, .inr (7, [.ref s2]))] 11 [(0, .ref h), (1, .ref h2)] []
  have hf := rR_cpy hR hc_3
  refine ww_sel (l := [(h, .inr (7, [.ref s])), (s, .inr (4, [.int (nI 12), .int (nI 8), .ref b, .int (nI ρ.1)])), (b, aI (kG κ) 96 g2_2), (h2, .inr (7, [.ref s2])), (s2, .inr (4, [.int (nI 12), .int (nI 8), .ref b2, .int (nI ρ.1)])), (b2, aI (kG κ) 96 g)]) (pm_sel [4, 0, 1, 5, 2, 3] 6 (by decide +kernel) rfl rfl) ?_
  exact w_vret C E dX7_copyFrom_11 rfl (Nat.le_refl _) (Nat.le_refl _) ⟨_, rfl, rfl, (hf)⟩
set_option maxHeartbeats 4000000 in
set_option maxRecDepth 100000 in
theorem c_X7_init (l : Launch) (G : GG) (h : Nat)  : MT l G yX7_init cX7_init 1 none 2 2 100 [.ref h] [(h, .inr (7, [.null]))] (fun v9 ws9 => ∃ (s : Nat) (b : Nat), v9 = none ∧ ws9 = [(h, .inr (7, [.ref s])), (s, .inr (4, [.int (nI 12), .int (nI 8), .ref b, .int (nI 0)])), (b, aI G 96 (fun _ => 0))]) := by
  refine MT.of RX7 [(0, .ref h)] (by decide +kernel) rfl rfl (Nat.le_of_ble_eq_true rfl) (fun κ C E hl9 hG9 hnm9 => ?_)
  subst hl9; subst hG9
  refine w_aload_n (nx := 1) C 0 dX7_init_0 rfl rfl rfl ?_
  refine w_obj (nx := 4) (rest := []) C dX7_init_1 rfl wl_X7_3 (Nat.le_of_ble_eq_true rfl) (Nat.le_of_ble_eq_true rfl) ?_
  refine w_aload_n (nx := 5) C 0 dX7_init_4 rfl rfl rfl ?_
  refine w_new (nx := 8) C fc4 [.int 0, .int 0, .null, .int 0] dX7_init_5 rfl wl_X7_9 wn_X4 wi_X4 df_X4 (Nat.le_of_ble_eq_true rfl) (Nat.le_of_ble_eq_true rfl) (fun q_1 => ?_)
  show WW κ 1 4 [(q_1, .inr (4, [.int 0, .int 0, .null, .int 0])), (h, .inr (7, [.null]))] 8 [(0, .ref h)] [.ref q_1, .ref h]
  refine w_dup (nx := 9) C dX7_init_8 rfl rfl ?_
  refine w_bipush (nx := 11) C (nI 12) dX7_init_9 rfl (by decide) ?_
  refine w_bipush (nx := 13) C (nI 8) dX7_init_11 rfl (by decide) ?_
  refine w_callI (nx := 16) (wr := [(h, .inr (7, [.null]))]) (rest := [.ref q_1, .ref h]) C mk_X4_init (c_X4_init_12_8 _ _ q_1) dX7_init_13 rfl wl_X7_13 (pm_sel [0, 1] 2 (by decide +kernel) rfl rfl) rfl rfl (Nat.le_of_ble_eq_true rfl) (Nat.le_of_ble_eq_true rfl) (Nat.le_of_ble_eq_true rfl) (Nat.le_of_ble_eq_true rfl) (Nat.le_of_ble_eq_true rfl) (fun v9 w9 R_2 => ?_)
  obtain ⟨b_3, rfl, rfl⟩ := R_2
  show WW κ 2 100 [(q_1, .inr (4, [.int (nI 12), .int (nI 8), .ref b_3, .int (nI 0)])), (b_3, aI (kG κ) 96 (fun _ => 0)), (h, .inr (7, [.null]))] 16 [(0, .ref h)] [.ref q_1, .ref h]
  refine w_putF (nx := 19) (ws2 := [(q_1, .inr (4, [.int (nI 12), .int (nI 8), .ref b_3, .int (nI 0)])), (b_3, aI (kG κ) 96 (fun _ => 0)), (h, .inr (7, [.ref q_1]))]) C fc7 2 0 hnm9 dX7_init_16 rfl wl_X7_16 rfl (by decide) rfl rfl rfl (Nat.le_of_ble_eq_true rfl) rfl ?_
  refine ww_sel (l := [(h, .inr (7, [.ref q_1])), (q_1, .inr (4, [.int (nI 12), .int (nI 8), .ref b_3, .int (nI 0)])), (b_3, aI (kG κ) 96 (fun _ => 0))]) (pm_sel [2, 0, 1] 3 (by decide +kernel) rfl rfl) ?_
  exact w_vret C E dX7_init_19 rfl (Nat.le_refl _) (Nat.le_refl _) ⟨_, _, rfl, rfl⟩
set_option maxHeartbeats 4000000 in
set_option maxRecDepth 100000 in
theorem c_X7_isIn (l : Launch) (G : GG) (s : Nat) (t : Nat) (hs : s < 4096) (ht : t < 12) : MT l G yX7_isIn cX7_isIn 2 (some .boolean) 1 0 0 [.int (nI s), .int (nI t)] [] (fun v9 ws9 => v9 = some (.int (bC (s.testBit t = true))) ∧ ws9 = []) := by
  refine MT.of RX7 [(0, .int (nI s)), (1, .int (nI t))] (by decide +kernel) rfl rfl (Nat.le_of_ble_eq_true rfl) (fun κ C E hl9 hG9 hnm9 => ?_)
  subst hl9; subst hG9
  refine w_iload_n (nx := 1) C 0 dX7_isIn_0 rfl rfl rfl ?_
  refine w_iload_n (nx := 2) C 1 dX7_isIn_1 rfl rfl rfl ?_
  refine w_ishr (nx := 3) C (nI (s / 2 ^ t)) dX7_isIn_2 rfl (shr12 hs ht) ?_
  refine w_iconst (nx := 4) C (nI 1) dX7_isIn_3 rfl (by decide) ?_
  refine w_iand (nx := 5) C (nI (if s.testBit t then 1 else 0)) dX7_isIn_4 rfl ((nI_and _ _).trans (congrArg nI (bit12 s t))) ?_
  have hb9 : (if s.testBit t then 1 else 0) < 2 := by split <;> decide
  refine w_iconst (nx := 6) C (nI 1) dX7_isIn_5 rfl (by decide) ?_
  refine n_icmp_ne (tg := 13) (nx := 9) C dX7_isIn_6 rfl rfl (by omega) (by omega) (fun h_1 => ?_) (fun h_1 => ?_)
  · refine w_iconst (nx := 14) C (nI 0) dX7_isIn_13 rfl (by decide) ?_
    exact w_iret (ty := .boolean) C E dX7_isIn_14 rfl rfl (Nat.le_refl _) (Nat.le_refl _) ⟨(congrArg (fun z => some (Value.int z)) (bC_0 (fun e9 => by rw [if_pos e9] at h_1; exact h_1 rfl))), rfl⟩
  · refine w_iconst (nx := 10) C (nI 1) dX7_isIn_9 rfl (by decide) ?_
    refine w_goto (nx := 14) C dX7_isIn_10 rfl ?_
    exact w_iret (ty := .boolean) C E dX7_isIn_14 rfl rfl (Nat.le_refl _) (Nat.le_refl _) ⟨(congrArg (fun z => some (Value.int z)) (bC_1 (by by_cases e9 : s.testBit t = true; exact e9; rw [if_neg e9] at h_1; exact absurd h_1 (by decide)))), rfl⟩
set_option maxHeartbeats 4000000 in
set_option maxRecDepth 100000 in
theorem c_X7_followers (l : Launch) (G : GG) (h : Nat) (s : Nat) (b : Nat) (f : Nat → Int32) (ρ : TR) (i : Nat) (hR : rR f ρ) (hw : wfR ρ) (hi : i < ρ.1) : MT l G yX7_followers cX7_followers 6 (some .int) 2 0 0 [.ref h, .int (nI i)] [(h, .inr (7, [.ref s])), (s, .inr (4, [.int (nI 12), .int (nI 8), .ref b, .int (nI ρ.1)])), (b, aI G 96 f)] (fun v9 ws9 => v9 = some (.int (nI (fol ρ i))) ∧ ws9 = [(h, .inr (7, [.ref s])), (s, .inr (4, [.int (nI 12), .int (nI 8), .ref b, .int (nI ρ.1)])), (b, aI G 96 f)]) := by
  refine MT.of RX7 [(0, .ref h), (1, .int (nI i))] (by decide +kernel) rfl rfl (Nat.le_of_ble_eq_true rfl) (fun κ C E hl9 hG9 hnm9 => ?_)
  subst hl9; subst hG9
  have hn12 := hw.1
  have hi9 := hw.2 i hi
  refine w_aload_n (nx := 1) C 0 dX7_followers_0 rfl rfl rfl ?_
  refine w_get (nx := 4) C fc7 (.ref s) 0 0 dX7_followers_1 rfl wl_X7_16 rfl (by decide) rfl rfl ?_
  refine w_iload_n (nx := 5) C 1 dX7_followers_4 rfl rfl rfl ?_
  refine w_iconst (nx := 6) C (nI 5) dX7_followers_5 rfl (by decide) ?_
  refine w_callV (nx := 9) (wr := [(h, .inr (7, [.ref s]))]) (rest := []) C mi_X4_get (c_X4_get_n _ _ s b 12 8 ρ.1 96 f i 5 (ρ.2 i 5) (by first | assumption | omega) (by first | assumption | omega) (by first | assumption | omega) (by first | assumption | omega) (by first | assumption | omega) (by first | assumption | omega) (by first | assumption | omega) (hR i (by omega) 5 (by decide))) 0 dX7_followers_6 rfl wl_X7_28 rfl rfl rfl (pm_sel [1, 2, 0] 3 (by decide +kernel) rfl rfl) rfl rfl (Nat.le_of_ble_eq_true rfl) (Nat.le_of_ble_eq_true rfl) (Nat.le_of_ble_eq_true rfl) (Nat.zero_le _) (Nat.zero_le _) (fun v9 w9 R_1 => ?_)
  obtain ⟨rfl, rfl⟩ := R_1
  show WW κ 0 0 [(s, .inr (4, [.int (nI 12), .int (nI 8), .ref b, .int (nI ρ.1)])), (b, aI (kG κ) 96 f), (h, .inr (7, [.ref s]))] 9 [(0, .ref h), (1, .int (nI i))] [.int (nI (ρ.2 i 5))]
  refine w_istore_n (nx := 10) (lo2 := [(2, .int (nI (ρ.2 i 5))), (0, .ref h), (1, .int (nI i))]) C dX7_followers_9 rfl rfl (by decide) rfl ?_
  refine w_aload_n (nx := 11) C 1 dX7_followers_10 rfl rfl rfl ?_
  refine w_get (nx := 14) C fc7 (.ref s) 2 0 dX7_followers_11 rfl wl_X7_16 rfl (by decide) rfl rfl ?_
  refine w_iload_n (nx := 15) C 2 dX7_followers_14 rfl rfl rfl ?_
  refine w_iconst (nx := 16) C (nI 4) dX7_followers_15 rfl (by decide) ?_
  refine w_callV (nx := 19) (wr := [(h, .inr (7, [.ref s]))]) (rest := []) C mi_X4_get (c_X4_get_n _ _ s b 12 8 ρ.1 96 f i 4 (ρ.2 i 4) (by first | assumption | omega) (by first | assumption | omega) (by first | assumption | omega) (by first | assumption | omega) (by first | assumption | omega) (by first | assumption | omega) (by first | assumption | omega) (hR i (by omega) 4 (by decide))) 0 dX7_followers_16 rfl wl_X7_28 rfl rfl rfl (pm_sel [0, 1, 2] 3 (by decide +kernel) rfl rfl) rfl rfl (Nat.le_of_ble_eq_true rfl) (Nat.le_of_ble_eq_true rfl) (Nat.le_of_ble_eq_true rfl) (Nat.zero_le _) (Nat.zero_le _) (fun v9 w9 R_2 => ?_)
  obtain ⟨rfl, rfl⟩ := R_2
  show WW κ 0 0 [(s, .inr (4, [.int (nI 12), .int (nI 8), .ref b, .int (nI ρ.1)])), (b, aI (kG κ) 96 f), (h, .inr (7, [.ref s]))] 19 [(2, .int (nI (ρ.2 i 5))), (0, .ref h), (1, .int (nI i))] [.int (nI (ρ.2 i 4))]
  refine w_iconst (nx := 20) C (nI 1) dX7_followers_19 rfl (by decide) ?_
  refine w_isub (nx := 21) C (nI (ρ.2 i 4) - nI 1) dX7_followers_20 rfl rfl ?_
  refine w_istore_n (nx := 22) (lo2 := [(3, .int (nI (ρ.2 i 4) - nI 1)), (2, .int (nI (ρ.2 i 5))), (0, .ref h), (1, .int (nI i))]) C dX7_followers_21 rfl rfl (by decide) rfl ?_
  refine w_iconst (nx := 23) C (nI 0) dX7_followers_22 rfl (by decide) ?_
  refine w_istore (nx := 25) (lo2 := [(4, .int (nI 0)), (3, .int (nI (ρ.2 i 4) - nI 1)), (2, .int (nI (ρ.2 i 5))), (0, .ref h), (1, .int (nI i))]) C dX7_followers_23 rfl (by decide) rfl ?_
  refine w_iconst (nx := 26) C (nI 0) dX7_followers_25 rfl (by decide) ?_
  refine w_istore (nx := 28) (lo2 := [(5, .int (nI 0)), (4, .int (nI 0)), (3, .int (nI (ρ.2 i 4) - nI 1)), (2, .int (nI (ρ.2 i 5))), (0, .ref h), (1, .int (nI i))]) C dX7_followers_26 rfl (by decide) rfl ?_
  have LP_3 : ∀ (N9_28 : Nat) (k : Nat) (a : Nat), (k ≤ ρ.1) → (a = folN ρ i k) → (ρ.1 - k) < N9_28 → WW κ 0 0 [(h, .inr (7, [.ref s])), (s, .inr (4, [.int (nI 12), .int (nI 8), .ref b, .int (nI ρ.1)])), (b, aI (kG κ) 96 f)] 28 [(0, .ref h), (1, .int (nI i)), (2, .int (nI (ρ.2 i 5))), (3, .int (nI (ρ.2 i 4) - nI 1)), (4, .int (nI a)), (5, .int (nI k))] [] := by
    intro N9_28
    induction N9_28 with
    | zero => intro k a hk ha hm9_28; exact absurd hm9_28 (Nat.not_lt_zero _)
    | succ N9_28 ih9_28 =>
      intro k a hk ha hm9_28
      refine w_iload (nx := 30) C 5 dX7_followers_28 rfl rfl ?_
      refine w_aload_n (nx := 31) C 0 dX7_followers_30 rfl rfl rfl ?_
      refine w_get (nx := 34) C fc7 (.ref s) 0 0 dX7_followers_31 rfl wl_X7_16 rfl (by decide) rfl rfl ?_
      refine w_callV (nx := 37) (wr := [(h, .inr (7, [.ref s]))]) (rest := [.int (nI k)]) C mi_X4_size (c_X4_size _ _ s b 12 8 ρ.1 96 f) 0 dX7_followers_34 rfl wl_X7_24 rfl rfl rfl (pm_sel [1, 2, 0] 3 (by decide +kernel) rfl rfl) rfl rfl (Nat.le_of_ble_eq_true rfl) (Nat.le_of_ble_eq_true rfl) (Nat.le_of_ble_eq_true rfl) (Nat.zero_le _) (Nat.zero_le _) (fun v9 w9 R_4 => ?_)
      obtain ⟨rfl, rfl⟩ := R_4
      show WW κ 0 0 [(s, .inr (4, [.int (nI 12), .int (nI 8), .ref b, .int (nI ρ.1)])), (b, aI (kG κ) 96 f), (h, .inr (7, [.ref s]))] 37 [(0, .ref h), (1, .int (nI i)), (2, .int (nI (ρ.2 i 5))), (3, .int (nI (ρ.2 i 4) - nI 1)), (4, .int (nI a)), (5, .int (nI k))] [.int (nI ρ.1), .int (nI k)]
      refine n_icmp_ge (tg := 83) (nx := 40) C dX7_followers_37 rfl rfl (by omega) (by omega) (fun h_5 => ?_) (fun h_5 => ?_)
      · refine w_iload (nx := 85) C 4 dX7_followers_83 rfl rfl ?_
        refine ww_sel (l := [(h, .inr (7, [.ref s])), (s, .inr (4, [.int (nI 12), .int (nI 8), .ref b, .int (nI ρ.1)])), (b, aI (kG κ) 96 f)]) (pm_sel [2, 0, 1] 3 (by decide +kernel) rfl rfl) ?_
        exact w_iret (ty := .int) C E dX7_followers_85 rfl rfl (Nat.le_refl _) (Nat.le_refl _) ⟨(congrArg (fun z => some (Value.int z)) (by have e9 : k = ρ.1 := (by omega); subst e9; rw [ha])), rfl⟩
      · have hk9 := hw.2 k (by omega)
        refine w_aload_n (nx := 41) C 0 dX7_followers_40 rfl rfl rfl ?_
        refine w_get (nx := 44) C fc7 (.ref s) 2 0 dX7_followers_41 rfl wl_X7_16 rfl (by decide) rfl rfl ?_
        refine w_iload (nx := 46) C 5 dX7_followers_44 rfl rfl ?_
        refine w_iconst (nx := 47) C (nI 0) dX7_followers_46 rfl (by decide) ?_
        refine w_callV (nx := 50) (wr := [(h, .inr (7, [.ref s]))]) (rest := []) C mi_X4_get (c_X4_get_n _ _ s b 12 8 ρ.1 96 f k 0 (ρ.2 k 0) (by first | assumption | omega) (by first | assumption | omega) (by first | assumption | omega) (by first | assumption | omega) (by first | assumption | omega) (by first | assumption | omega) (by first | assumption | omega) (hR k (by omega) 0 (by decide))) 0 dX7_followers_47 rfl wl_X7_28 rfl rfl rfl (pm_sel [0, 1, 2] 3 (by decide +kernel) rfl rfl) rfl rfl (Nat.le_of_ble_eq_true rfl) (Nat.le_of_ble_eq_true rfl) (Nat.le_of_ble_eq_true rfl) (Nat.zero_le _) (Nat.zero_le _) (fun v9 w9 R_6 => ?_)
        obtain ⟨rfl, rfl⟩ := R_6
        show WW κ 0 0 [(s, .inr (4, [.int (nI 12), .int (nI 8), .ref b, .int (nI ρ.1)])), (b, aI (kG κ) 96 f), (h, .inr (7, [.ref s]))] 50 [(0, .ref h), (1, .int (nI i)), (2, .int (nI (ρ.2 i 5))), (3, .int (nI (ρ.2 i 4) - nI 1)), (4, .int (nI a)), (5, .int (nI k))] [.int (nI (ρ.2 k 0))]
        refine w_iload_n (nx := 51) C 2 dX7_followers_50 rfl rfl rfl ?_
        refine n_icmp_ne (tg := 77) (nx := 54) C dX7_followers_51 rfl rfl (by omega) (by omega) (fun h_7 => ?_) (fun h_7 => ?_)
        · refine w_iinc (nx := 80) (lo2 := [(5, .int (nI (k + 1))), (0, .ref h), (1, .int (nI i)), (2, .int (nI (ρ.2 i 5))), (3, .int (nI (ρ.2 i 4) - nI 1)), (4, .int (nI a))]) C (nI (k + 1)) 5 dX7_followers_77 rfl rfl (nI_add _ _) (by decide) rfl ?_
          refine w_goto (nx := 28) C dX7_followers_80 rfl ?_
          refine ww_sel (l := [(h, .inr (7, [.ref s])), (s, .inr (4, [.int (nI 12), .int (nI 8), .ref b, .int (nI ρ.1)])), (b, aI (kG κ) 96 f)]) (pm_sel [2, 0, 1] 3 (by decide +kernel) rfl rfl) ?_
          refine ww_lo [1, 2, 3, 4, 5, 0] (lo' := [(0, .ref h), (1, .int (nI i)), (2, .int (nI (ρ.2 i 5))), (3, .int (nI (ρ.2 i 4) - nI 1)), (4, .int (nI a)), (5, .int (nI (k + 1)))]) rfl ?_
          exact ih9_28 (k + 1) a (by first | assumption | omega) (by show _ = (if _ then _ else _); first | rw [if_pos ⟨by assumption, by assumption⟩, ← ha] | rw [if_neg (by omega), ← ha]) (by omega)
        · refine w_aload_n (nx := 55) C 0 dX7_followers_54 rfl rfl rfl ?_
          refine w_get (nx := 58) C fc7 (.ref s) 2 0 dX7_followers_55 rfl wl_X7_16 rfl (by decide) rfl rfl ?_
          refine w_iload (nx := 60) C 5 dX7_followers_58 rfl rfl ?_
          refine w_iconst (nx := 61) C (nI 1) dX7_followers_60 rfl (by decide) ?_
          refine w_callV (nx := 64) (wr := [(h, .inr (7, [.ref s]))]) (rest := []) C mi_X4_get (c_X4_get_n _ _ s b 12 8 ρ.1 96 f k 1 (ρ.2 k 1) (by first | assumption | omega) (by first | assumption | omega) (by first | assumption | omega) (by first | assumption | omega) (by first | assumption | omega) (by first | assumption | omega) (by first | assumption | omega) (hR k (by omega) 1 (by decide))) 0 dX7_followers_61 rfl wl_X7_28 rfl rfl rfl (pm_sel [0, 1, 2] 3 (by decide +kernel) rfl rfl) rfl rfl (Nat.le_of_ble_eq_true rfl) (Nat.le_of_ble_eq_true rfl) (Nat.le_of_ble_eq_true rfl) (Nat.zero_le _) (Nat.zero_le _) (fun v9 w9 R_8 => ?_)
          obtain ⟨rfl, rfl⟩ := R_8
          show WW κ 0 0 [(s, .inr (4, [.int (nI 12), .int (nI 8), .ref b, .int (nI ρ.1)])), (b, aI (kG κ) 96 f), (h, .inr (7, [.ref s]))] 64 [(0, .ref h), (1, .int (nI i)), (2, .int (nI (ρ.2 i 5))), (3, .int (nI (ρ.2 i 4) - nI 1)), (4, .int (nI a)), (5, .int (nI k))] [.int (nI (ρ.2 k 1))]
          refine w_iload_n (nx := 65) C 3 dX7_followers_64 rfl rfl rfl ?_
          refine w_icmp_ne (tg := 77) (nx := 68) C dX7_followers_65 rfl rfl (fun h_9 => ?_) (fun h_9 => ?_)
          · have e9 : ¬ ρ.2 k 1 + 1 = ρ.2 i 4 := fun e => h_9 ((kd_iff (by omega) (by omega)).mpr e)
            refine w_iinc (nx := 80) (lo2 := [(5, .int (nI (k + 1))), (0, .ref h), (1, .int (nI i)), (2, .int (nI (ρ.2 i 5))), (3, .int (nI (ρ.2 i 4) - nI 1)), (4, .int (nI a))]) C (nI (k + 1)) 5 dX7_followers_77 rfl rfl (nI_add _ _) (by decide) rfl ?_
            refine w_goto (nx := 28) C dX7_followers_80 rfl ?_
            refine ww_sel (l := [(h, .inr (7, [.ref s])), (s, .inr (4, [.int (nI 12), .int (nI 8), .ref b, .int (nI ρ.1)])), (b, aI (kG κ) 96 f)]) (pm_sel [2, 0, 1] 3 (by decide +kernel) rfl rfl) ?_
            refine ww_lo [1, 2, 3, 4, 5, 0] (lo' := [(0, .ref h), (1, .int (nI i)), (2, .int (nI (ρ.2 i 5))), (3, .int (nI (ρ.2 i 4) - nI 1)), (4, .int (nI a)), (5, .int (nI (k + 1)))]) rfl ?_
            exact ih9_28 (k + 1) a (by first | assumption | omega) (by show _ = (if _ then _ else _); first | rw [if_pos ⟨by assumption, by assumption⟩, ← ha] | rw [if_neg (by omega), ← ha]) (by omega)
          · have e9 := (kd_iff (by omega) (by omega)).mp h_9
            refine w_iload (nx := 70) C 4 dX7_followers_68 rfl rfl ?_
            refine w_iconst (nx := 71) C (nI 1) dX7_followers_70 rfl (by decide) ?_
            refine w_iload (nx := 73) C 5 dX7_followers_71 rfl rfl ?_
            refine w_ishl (nx := 74) C (nI (2 ^ k)) dX7_followers_73 rfl (sh1 k (by omega)) ?_
            refine w_ior (nx := 75) C (nI (a ||| 2 ^ k)) dX7_followers_74 rfl (nI_or _ _) ?_
            refine w_istore (nx := 77) (lo2 := [(4, .int (nI (a ||| 2 ^ k))), (0, .ref h), (1, .int (nI i)), (2, .int (nI (ρ.2 i 5))), (3, .int (nI (ρ.2 i 4) - nI 1)), (5, .int (nI k))]) C dX7_followers_75 rfl (by decide) rfl ?_
            refine w_iinc (nx := 80) (lo2 := [(5, .int (nI (k + 1))), (4, .int (nI (a ||| 2 ^ k))), (0, .ref h), (1, .int (nI i)), (2, .int (nI (ρ.2 i 5))), (3, .int (nI (ρ.2 i 4) - nI 1))]) C (nI (k + 1)) 5 dX7_followers_77 rfl rfl (nI_add _ _) (by decide) rfl ?_
            refine w_goto (nx := 28) C dX7_followers_80 rfl ?_
            refine ww_sel (l := [(h, .inr (7, [.ref s])), (s, .inr (4, [.int (nI 12), .int (nI 8), .ref b, .int (nI ρ.1)])), (b, aI (kG κ) 96 f)]) (pm_sel [2, 0, 1] 3 (by decide +kernel) rfl rfl) ?_
            refine ww_lo [2, 3, 4, 5, 1, 0] (lo' := [(0, .ref h), (1, .int (nI i)), (2, .int (nI (ρ.2 i 5))), (3, .int (nI (ρ.2 i 4) - nI 1)), (4, .int (nI (a ||| 2 ^ k))), (5, .int (nI (k + 1)))]) rfl ?_
            exact ih9_28 (k + 1) (a ||| 2 ^ k) (by first | assumption | omega) (by show _ = (if _ then _ else _); first | rw [if_pos ⟨by assumption, by assumption⟩, ← ha] | rw [if_neg (by omega), ← ha]) (by omega)
  refine ww_sel (l := [(h, .inr (7, [.ref s])), (s, .inr (4, [.int (nI 12), .int (nI 8), .ref b, .int (nI ρ.1)])), (b, aI (kG κ) 96 f)]) (pm_sel [2, 0, 1] 3 (by decide +kernel) rfl rfl) ?_
  refine ww_lo [4, 5, 3, 2, 1, 0] (lo' := [(0, .ref h), (1, .int (nI i)), (2, .int (nI (ρ.2 i 5))), (3, .int (nI (ρ.2 i 4) - nI 1)), (4, .int (nI 0)), (5, .int (nI 0))]) rfl ?_
  exact LP_3 _ 0 0 (by first | assumption | omega) (rfl) (Nat.lt_succ_self _)
set_option maxHeartbeats 4000000 in
set_option maxRecDepth 100000 in
theorem c_X7_followersOfAll (l : Launch) (G : GG) (h : Nat) (s : Nat) (b : Nat) (f : Nat → Int32) (ρ : TR) (m : Nat) (hR : rR f ρ) (hw : wfR ρ) (hm : m < 4096) : MT l G yX7_followersOfAll cX7_followersOfAll 4 (some .int) 3 0 0 [.ref h, .int (nI m)] [(h, .inr (7, [.ref s])), (s, .inr (4, [.int (nI 12), .int (nI 8), .ref b, .int (nI ρ.1)])), (b, aI G 96 f)] (fun v9 ws9 => v9 = some (.int (nI (folA ρ m ρ.1))) ∧ ws9 = [(h, .inr (7, [.ref s])), (s, .inr (4, [.int (nI 12), .int (nI 8), .ref b, .int (nI ρ.1)])), (b, aI G 96 f)]) := by
  refine MT.of RX7 [(0, .ref h), (1, .int (nI m))] (by decide +kernel) rfl rfl (Nat.le_of_ble_eq_true rfl) (fun κ C E hl9 hG9 hnm9 => ?_)
  subst hl9; subst hG9
  have hn12 := hw.1
  refine w_iconst (nx := 1) C (nI 0) dX7_followersOfAll_0 rfl (by decide) ?_
  refine w_istore_n (nx := 2) (lo2 := [(2, .int (nI 0)), (0, .ref h), (1, .int (nI m))]) C dX7_followersOfAll_1 rfl rfl (by decide) rfl ?_
  refine w_iconst (nx := 3) C (nI 0) dX7_followersOfAll_2 rfl (by decide) ?_
  refine w_istore_n (nx := 4) (lo2 := [(3, .int (nI 0)), (2, .int (nI 0)), (0, .ref h), (1, .int (nI m))]) C dX7_followersOfAll_3 rfl rfl (by decide) rfl ?_
  have LP_1 : ∀ (N9_4 : Nat) (k : Nat) (a : Nat), (k ≤ ρ.1) → (a = folA ρ m k) → (ρ.1 - k) < N9_4 → WW κ 0 0 [(h, .inr (7, [.ref s])), (s, .inr (4, [.int (nI 12), .int (nI 8), .ref b, .int (nI ρ.1)])), (b, aI (kG κ) 96 f)] 4 [(0, .ref h), (1, .int (nI m)), (2, .int (nI a)), (3, .int (nI k))] [] := by
    intro N9_4
    induction N9_4 with
    | zero => intro k a hk ha hm9_4; exact absurd hm9_4 (Nat.not_lt_zero _)
    | succ N9_4 ih9_4 =>
      intro k a hk ha hm9_4
      refine w_iload_n (nx := 5) C 3 dX7_followersOfAll_4 rfl rfl rfl ?_
      refine w_aload_n (nx := 6) C 0 dX7_followersOfAll_5 rfl rfl rfl ?_
      refine w_get (nx := 9) C fc7 (.ref s) 0 0 dX7_followersOfAll_6 rfl wl_X7_16 rfl (by decide) rfl rfl ?_
      refine w_callV (nx := 12) (wr := [(h, .inr (7, [.ref s]))]) (rest := [.int (nI k)]) C mi_X4_size (c_X4_size _ _ s b 12 8 ρ.1 96 f) 0 dX7_followersOfAll_9 rfl wl_X7_24 rfl rfl rfl (pm_sel [1, 2, 0] 3 (by decide +kernel) rfl rfl) rfl rfl (Nat.le_of_ble_eq_true rfl) (Nat.le_of_ble_eq_true rfl) (Nat.le_of_ble_eq_true rfl) (Nat.zero_le _) (Nat.zero_le _) (fun v9 w9 R_2 => ?_)
      obtain ⟨rfl, rfl⟩ := R_2
      show WW κ 0 0 [(s, .inr (4, [.int (nI 12), .int (nI 8), .ref b, .int (nI ρ.1)])), (b, aI (kG κ) 96 f), (h, .inr (7, [.ref s]))] 12 [(0, .ref h), (1, .int (nI m)), (2, .int (nI a)), (3, .int (nI k))] [.int (nI ρ.1), .int (nI k)]
      refine n_icmp_ge (tg := 37) (nx := 15) C dX7_followersOfAll_12 rfl rfl (by omega) (by omega) (fun h_3 => ?_) (fun h_3 => ?_)
      · refine w_iload_n (nx := 38) C 2 dX7_followersOfAll_37 rfl rfl rfl ?_
        refine ww_sel (l := [(h, .inr (7, [.ref s])), (s, .inr (4, [.int (nI 12), .int (nI 8), .ref b, .int (nI ρ.1)])), (b, aI (kG κ) 96 f)]) (pm_sel [2, 0, 1] 3 (by decide +kernel) rfl rfl) ?_
        exact w_iret (ty := .int) C E dX7_followersOfAll_38 rfl rfl (Nat.le_refl _) (Nat.le_refl _) ⟨(congrArg (fun z => some (Value.int z)) (by have e9 : k = ρ.1 := (by omega); subst e9; rw [ha])), rfl⟩
      · refine w_iload_n (nx := 16) C 1 dX7_followersOfAll_15 rfl rfl rfl ?_
        refine w_iload_n (nx := 17) C 3 dX7_followersOfAll_16 rfl rfl rfl ?_
        refine w_callS (nx := 20) (wr := [(s, .inr (4, [.int (nI 12), .int (nI 8), .ref b, .int (nI ρ.1)])), (b, aI (kG κ) 96 f), (h, .inr (7, [.ref s]))]) (rest := []) C ms_X7_isIn (c_X7_isIn _ _ m k (by first | assumption | omega) (by first | assumption | omega)) dX7_followersOfAll_17 rfl wl_X7_54 rfl (pm_sel [0, 1, 2] 3 (by decide +kernel) rfl rfl) rfl rfl (Nat.le_of_ble_eq_true rfl) (Nat.le_of_ble_eq_true rfl) (Nat.le_of_ble_eq_true rfl) (Nat.zero_le _) (Nat.zero_le _) (fun v9 w9 R_4 => ?_)
        obtain ⟨rfl, rfl⟩ := R_4
        show WW κ 0 0 [(s, .inr (4, [.int (nI 12), .int (nI 8), .ref b, .int (nI ρ.1)])), (b, aI (kG κ) 96 f), (h, .inr (7, [.ref s]))] 20 [(0, .ref h), (1, .int (nI m)), (2, .int (nI a)), (3, .int (nI k))] [.int (bC (m.testBit k = true))]
        refine b_if_eq (tg := 31) (nx := 23) C dX7_followersOfAll_20 rfl rfl (fun h_5 => ?_) (fun h_5 => ?_)
        · refine w_iinc (nx := 34) (lo2 := [(3, .int (nI (k + 1))), (0, .ref h), (1, .int (nI m)), (2, .int (nI a))]) C (nI (k + 1)) 3 dX7_followersOfAll_31 rfl rfl (nI_add _ _) (by decide) rfl ?_
          refine w_goto (nx := 4) C dX7_followersOfAll_34 rfl ?_
          refine ww_sel (l := [(h, .inr (7, [.ref s])), (s, .inr (4, [.int (nI 12), .int (nI 8), .ref b, .int (nI ρ.1)])), (b, aI (kG κ) 96 f)]) (pm_sel [2, 0, 1] 3 (by decide +kernel) rfl rfl) ?_
          refine ww_lo [1, 2, 3, 0] (lo' := [(0, .ref h), (1, .int (nI m)), (2, .int (nI a)), (3, .int (nI (k + 1)))]) rfl ?_
          exact ih9_4 (k + 1) a (by first | assumption | omega) (by show _ = (if _ then _ else _); first | rw [if_pos (by assumption), ← ha] | rw [if_neg (by assumption), ← ha]) (by omega)
        · refine w_iload_n (nx := 24) C 2 dX7_followersOfAll_23 rfl rfl rfl ?_
          refine w_aload_n (nx := 25) C 0 dX7_followersOfAll_24 rfl rfl rfl ?_
          refine w_iload_n (nx := 26) C 3 dX7_followersOfAll_25 rfl rfl rfl ?_
          refine w_callV (nx := 29) (wr := []) (rest := [.int (nI a)]) C mi_X7_followers (c_X7_followers _ _ h s b f ρ k (by first | assumption | omega) (by first | assumption | omega) (by first | assumption | omega)) 0 dX7_followersOfAll_26 rfl wl_X7_47 rfl rfl rfl (pm_sel [2, 0, 1] 3 (by decide +kernel) rfl rfl) rfl rfl (Nat.le_of_ble_eq_true rfl) (Nat.le_of_ble_eq_true rfl) (Nat.le_of_ble_eq_true rfl) (Nat.zero_le _) (Nat.zero_le _) (fun v9 w9 R_6 => ?_)
          obtain ⟨rfl, rfl⟩ := R_6
          show WW κ 0 0 [(h, .inr (7, [.ref s])), (s, .inr (4, [.int (nI 12), .int (nI 8), .ref b, .int (nI ρ.1)])), (b, aI (kG κ) 96 f)] 29 [(0, .ref h), (1, .int (nI m)), (2, .int (nI a)), (3, .int (nI k))] [.int (nI (fol ρ k)), .int (nI a)]
          refine w_ior (nx := 30) C (nI (a ||| fol ρ k)) dX7_followersOfAll_29 rfl (nI_or _ _) ?_
          refine w_istore_n (nx := 31) (lo2 := [(2, .int (nI (a ||| fol ρ k))), (0, .ref h), (1, .int (nI m)), (3, .int (nI k))]) C dX7_followersOfAll_30 rfl rfl (by decide) rfl ?_
          refine w_iinc (nx := 34) (lo2 := [(3, .int (nI (k + 1))), (2, .int (nI (a ||| fol ρ k))), (0, .ref h), (1, .int (nI m))]) C (nI (k + 1)) 3 dX7_followersOfAll_31 rfl rfl (nI_add _ _) (by decide) rfl ?_
          refine w_goto (nx := 4) C dX7_followersOfAll_34 rfl ?_
          refine ww_lo [2, 3, 1, 0] (lo' := [(0, .ref h), (1, .int (nI m)), (2, .int (nI (a ||| fol ρ k))), (3, .int (nI (k + 1)))]) rfl ?_
          exact ih9_4 (k + 1) (a ||| fol ρ k) (by first | assumption | omega) (by show _ = (if _ then _ else _); first | rw [if_pos (by assumption), ← ha] | rw [if_neg (by assumption), ← ha]) (by omega)
  refine ww_lo [2, 3, 1, 0] (lo' := [(0, .ref h), (1, .int (nI m)), (2, .int (nI 0)), (3, .int (nI 0))]) rfl ?_
  exact LP_1 _ 0 0 (by first | assumption | omega) (rfl) (Nat.lt_succ_self _)
set_option maxHeartbeats 4000000 in
set_option maxRecDepth 100000 in
theorem c_X7_couldSetOffItself (l : Launch) (G : GG) (h : Nat) (s : Nat) (b : Nat) (f : Nat → Int32) (ρ : TR) (i : Nat) (hR : rR f ρ) (hw : wfR ρ) (hi : i < ρ.1) : MT l G yX7_couldSetOffItself cX7_couldSetOffItself 4 (some .boolean) 4 0 0 [.ref h, .int (nI i)] [(h, .inr (7, [.ref s])), (s, .inr (4, [.int (nI 12), .int (nI 8), .ref b, .int (nI ρ.1)])), (b, aI G 96 f)] (fun v9 ws9 => v9 = some (.int (bC (slfB ρ i = true))) ∧ ws9 = [(h, .inr (7, [.ref s])), (s, .inr (4, [.int (nI 12), .int (nI 8), .ref b, .int (nI ρ.1)])), (b, aI G 96 f)]) := by
  refine MT.of RX7 [(0, .ref h), (1, .int (nI i))] (by decide +kernel) rfl rfl (Nat.le_of_ble_eq_true rfl) (fun κ C E hl9 hG9 hnm9 => ?_)
  subst hl9; subst hG9
  have hn12 := hw.1
  refine w_aload_n (nx := 1) C 0 dX7_couldSetOffItself_0 rfl rfl rfl ?_
  refine w_iload_n (nx := 2) C 1 dX7_couldSetOffItself_1 rfl rfl rfl ?_
  refine w_callV (nx := 5) (wr := []) (rest := []) C mi_X7_followers (c_X7_followers _ _ h s b f ρ i (by first | assumption | omega) (by first | assumption | omega) (by first | assumption | omega)) 0 dX7_couldSetOffItself_2 rfl wl_X7_47 rfl rfl rfl (pm_sel [0, 1, 2] 3 (by decide +kernel) rfl rfl) rfl rfl (Nat.le_of_ble_eq_true rfl) (Nat.le_of_ble_eq_true rfl) (Nat.le_of_ble_eq_true rfl) (Nat.zero_le _) (Nat.zero_le _) (fun v9 w9 R_1 => ?_)
  obtain ⟨rfl, rfl⟩ := R_1
  show WW κ 0 0 [(h, .inr (7, [.ref s])), (s, .inr (4, [.int (nI 12), .int (nI 8), .ref b, .int (nI ρ.1)])), (b, aI (kG κ) 96 f)] 5 [(0, .ref h), (1, .int (nI i))] [.int (nI (fol ρ i))]
  refine w_istore_n (nx := 6) (lo2 := [(2, .int (nI (fol ρ i))), (0, .ref h), (1, .int (nI i))]) C dX7_couldSetOffItself_5 rfl rfl (by decide) rfl ?_
  refine w_iconst (nx := 7) C (nI 1) dX7_couldSetOffItself_6 rfl (by decide) ?_
  refine w_istore_n (nx := 8) (lo2 := [(3, .int (nI 1)), (2, .int (nI (fol ρ i))), (0, .ref h), (1, .int (nI i))]) C dX7_couldSetOffItself_7 rfl rfl (by decide) rfl ?_
  have LP_2 : ∀ (N9_8 : Nat) (q : Nat) (a : Nat), (1 ≤ q) → (q ≤ 12) → (a = rch ρ i (q - 1)) → (a < 4096) → (12 - q) < N9_8 → WW κ 0 0 [(h, .inr (7, [.ref s])), (s, .inr (4, [.int (nI 12), .int (nI 8), .ref b, .int (nI ρ.1)])), (b, aI (kG κ) 96 f)] 8 [(0, .ref h), (1, .int (nI i)), (2, .int (nI a)), (3, .int (nI q))] [] := by
    intro N9_8
    induction N9_8 with
    | zero => intro q a hq1 hq2 ha hl hm9_8; exact absurd hm9_8 (Nat.not_lt_zero _)
    | succ N9_8 ih9_8 =>
      intro q a hq1 hq2 ha hl hm9_8
      refine w_iload_n (nx := 9) C 3 dX7_couldSetOffItself_8 rfl rfl rfl ?_
      refine w_bipush (nx := 11) C (nI 12) dX7_couldSetOffItself_9 rfl (by decide) ?_
      refine n_icmp_ge (tg := 28) (nx := 14) C dX7_couldSetOffItself_11 rfl rfl (by omega) (by omega) (fun h_3 => ?_) (fun h_3 => ?_)
      · refine w_iload_n (nx := 29) C 2 dX7_couldSetOffItself_28 rfl rfl rfl ?_
        refine w_iload_n (nx := 30) C 1 dX7_couldSetOffItself_29 rfl rfl rfl ?_
        refine w_callS (nx := 33) (wr := [(h, .inr (7, [.ref s])), (s, .inr (4, [.int (nI 12), .int (nI 8), .ref b, .int (nI ρ.1)])), (b, aI (kG κ) 96 f)]) (rest := []) C ms_X7_isIn (c_X7_isIn _ _ a i (by first | assumption | omega) (by first | assumption | omega)) dX7_couldSetOffItself_30 rfl wl_X7_54 rfl (pm_sel [0, 1, 2] 3 (by decide +kernel) rfl rfl) rfl rfl (Nat.le_of_ble_eq_true rfl) (Nat.le_of_ble_eq_true rfl) (Nat.le_of_ble_eq_true rfl) (Nat.zero_le _) (Nat.zero_le _) (fun v9 w9 R_4 => ?_)
        obtain ⟨rfl, rfl⟩ := R_4
        show WW κ 0 0 [(h, .inr (7, [.ref s])), (s, .inr (4, [.int (nI 12), .int (nI 8), .ref b, .int (nI ρ.1)])), (b, aI (kG κ) 96 f)] 33 [(0, .ref h), (1, .int (nI i)), (2, .int (nI a)), (3, .int (nI q))] [.int (bC (a.testBit i = true))]
        exact w_iret (ty := .boolean) C E dX7_couldSetOffItself_33 rfl (bC_nar0 _) (Nat.le_refl _) (Nat.le_refl _) ⟨(congrArg (fun z => some (Value.int z)) (by have e9 : q = 12 := (by omega); subst e9; rw [ha]; rfl)), rfl⟩
      · refine w_iload_n (nx := 15) C 2 dX7_couldSetOffItself_14 rfl rfl rfl ?_
        refine w_aload_n (nx := 16) C 0 dX7_couldSetOffItself_15 rfl rfl rfl ?_
        refine w_iload_n (nx := 17) C 2 dX7_couldSetOffItself_16 rfl rfl rfl ?_
        refine w_callV (nx := 20) (wr := []) (rest := [.int (nI a)]) C mi_X7_followersOfAll (c_X7_followersOfAll _ _ h s b f ρ a (by first | assumption | omega) (by first | assumption | omega) (by first | assumption | omega)) 0 dX7_couldSetOffItself_17 rfl wl_X7_51 rfl rfl rfl (pm_sel [0, 1, 2] 3 (by decide +kernel) rfl rfl) rfl rfl (Nat.le_of_ble_eq_true rfl) (Nat.le_of_ble_eq_true rfl) (Nat.le_of_ble_eq_true rfl) (Nat.zero_le _) (Nat.zero_le _) (fun v9 w9 R_5 => ?_)
        obtain ⟨rfl, rfl⟩ := R_5
        show WW κ 0 0 [(h, .inr (7, [.ref s])), (s, .inr (4, [.int (nI 12), .int (nI 8), .ref b, .int (nI ρ.1)])), (b, aI (kG κ) 96 f)] 20 [(0, .ref h), (1, .int (nI i)), (2, .int (nI a)), (3, .int (nI q))] [.int (nI (folA ρ a ρ.1)), .int (nI a)]
        refine w_ior (nx := 21) C (nI (a ||| folA ρ a ρ.1)) dX7_couldSetOffItself_20 rfl (nI_or _ _) ?_
        refine w_istore_n (nx := 22) (lo2 := [(2, .int (nI (a ||| folA ρ a ρ.1))), (0, .ref h), (1, .int (nI i)), (3, .int (nI q))]) C dX7_couldSetOffItself_21 rfl rfl (by decide) rfl ?_
        refine w_iinc (nx := 25) (lo2 := [(3, .int (nI (q + 1))), (2, .int (nI (a ||| folA ρ a ρ.1))), (0, .ref h), (1, .int (nI i))]) C (nI (q + 1)) 3 dX7_couldSetOffItself_22 rfl rfl (nI_add _ _) (by decide) rfl ?_
        refine w_goto (nx := 8) C dX7_couldSetOffItself_25 rfl ?_
        refine ww_lo [2, 3, 1, 0] (lo' := [(0, .ref h), (1, .int (nI i)), (2, .int (nI (a ||| folA ρ a ρ.1))), (3, .int (nI (q + 1)))]) rfl ?_
        exact ih9_8 (q + 1) (a ||| folA ρ a ρ.1) (by first | assumption | omega) (by first | assumption | omega) (by rw [show q + 1 - 1 = (q - 1) + 1 by omega, ha]; rfl) (or_lt12 hl (folA_lt hn12 _ _)) (by omega)
  refine ww_lo [2, 3, 1, 0] (lo' := [(0, .ref h), (1, .int (nI i)), (2, .int (nI (fol ρ i))), (3, .int (nI 1))]) rfl ?_
  exact LP_2 _ 1 (fol ρ i) (by first | assumption | omega) (by first | assumption | omega) (rfl) (folN_lt ρ i _ hn12) (Nat.lt_succ_self _)
set_option maxHeartbeats 4000000 in
set_option maxRecDepth 100000 in
theorem c_X7_thoseThatCouldSetOffThemselves (l : Launch) (G : GG) (h : Nat) (s : Nat) (b : Nat) (f : Nat → Int32) (ρ : TR) (hR : rR f ρ) (hw : wfR ρ) : MT l G yX7_thoseThatCouldSetOffThemselves cX7_thoseThatCouldSetOffThemselves 3 (some .int) 5 0 0 [.ref h] [(h, .inr (7, [.ref s])), (s, .inr (4, [.int (nI 12), .int (nI 8), .ref b, .int (nI ρ.1)])), (b, aI G 96 f)] (fun v9 ws9 => v9 = some (.int (nI (slfN ρ ρ.1))) ∧ ws9 = [(h, .inr (7, [.ref s])), (s, .inr (4, [.int (nI 12), .int (nI 8), .ref b, .int (nI ρ.1)])), (b, aI G 96 f)]) := by
  refine MT.of RX7 [(0, .ref h)] (by decide +kernel) rfl rfl (Nat.le_of_ble_eq_true rfl) (fun κ C E hl9 hG9 hnm9 => ?_)
  subst hl9; subst hG9
  have hn12 := hw.1
  refine w_iconst (nx := 1) C (nI 0) dX7_thoseThatCouldSetOffThemselves_0 rfl (by decide) ?_
  refine w_istore_n (nx := 2) (lo2 := [(1, .int (nI 0)), (0, .ref h)]) C dX7_thoseThatCouldSetOffThemselves_1 rfl rfl (by decide) rfl ?_
  refine w_iconst (nx := 3) C (nI 0) dX7_thoseThatCouldSetOffThemselves_2 rfl (by decide) ?_
  refine w_istore_n (nx := 4) (lo2 := [(2, .int (nI 0)), (1, .int (nI 0)), (0, .ref h)]) C dX7_thoseThatCouldSetOffThemselves_3 rfl rfl (by decide) rfl ?_
  have LP_1 : ∀ (N9_4 : Nat) (k : Nat) (a : Nat), (k ≤ ρ.1) → (a = slfN ρ k) → (ρ.1 - k) < N9_4 → WW κ 0 0 [(h, .inr (7, [.ref s])), (s, .inr (4, [.int (nI 12), .int (nI 8), .ref b, .int (nI ρ.1)])), (b, aI (kG κ) 96 f)] 4 [(0, .ref h), (1, .int (nI a)), (2, .int (nI k))] [] := by
    intro N9_4
    induction N9_4 with
    | zero => intro k a hk ha hm9_4; exact absurd hm9_4 (Nat.not_lt_zero _)
    | succ N9_4 ih9_4 =>
      intro k a hk ha hm9_4
      refine w_iload_n (nx := 5) C 2 dX7_thoseThatCouldSetOffThemselves_4 rfl rfl rfl ?_
      refine w_aload_n (nx := 6) C 0 dX7_thoseThatCouldSetOffThemselves_5 rfl rfl rfl ?_
      refine w_get (nx := 9) C fc7 (.ref s) 0 0 dX7_thoseThatCouldSetOffThemselves_6 rfl wl_X7_16 rfl (by decide) rfl rfl ?_
      refine w_callV (nx := 12) (wr := [(h, .inr (7, [.ref s]))]) (rest := [.int (nI k)]) C mi_X4_size (c_X4_size _ _ s b 12 8 ρ.1 96 f) 0 dX7_thoseThatCouldSetOffThemselves_9 rfl wl_X7_24 rfl rfl rfl (pm_sel [1, 2, 0] 3 (by decide +kernel) rfl rfl) rfl rfl (Nat.le_of_ble_eq_true rfl) (Nat.le_of_ble_eq_true rfl) (Nat.le_of_ble_eq_true rfl) (Nat.zero_le _) (Nat.zero_le _) (fun v9 w9 R_2 => ?_)
      obtain ⟨rfl, rfl⟩ := R_2
      show WW κ 0 0 [(s, .inr (4, [.int (nI 12), .int (nI 8), .ref b, .int (nI ρ.1)])), (b, aI (kG κ) 96 f), (h, .inr (7, [.ref s]))] 12 [(0, .ref h), (1, .int (nI a)), (2, .int (nI k))] [.int (nI ρ.1), .int (nI k)]
      refine n_icmp_ge (tg := 35) (nx := 15) C dX7_thoseThatCouldSetOffThemselves_12 rfl rfl (by omega) (by omega) (fun h_3 => ?_) (fun h_3 => ?_)
      · refine w_iload_n (nx := 36) C 1 dX7_thoseThatCouldSetOffThemselves_35 rfl rfl rfl ?_
        refine ww_sel (l := [(h, .inr (7, [.ref s])), (s, .inr (4, [.int (nI 12), .int (nI 8), .ref b, .int (nI ρ.1)])), (b, aI (kG κ) 96 f)]) (pm_sel [2, 0, 1] 3 (by decide +kernel) rfl rfl) ?_
        exact w_iret (ty := .int) C E dX7_thoseThatCouldSetOffThemselves_36 rfl rfl (Nat.le_refl _) (Nat.le_refl _) ⟨(congrArg (fun z => some (Value.int z)) (by have e9 : k = ρ.1 := (by omega); subst e9; rw [ha])), rfl⟩
      · refine w_aload_n (nx := 16) C 0 dX7_thoseThatCouldSetOffThemselves_15 rfl rfl rfl ?_
        refine w_iload_n (nx := 17) C 2 dX7_thoseThatCouldSetOffThemselves_16 rfl rfl rfl ?_
        refine w_callV (nx := 20) (wr := []) (rest := []) C mi_X7_couldSetOffItself (c_X7_couldSetOffItself _ _ h s b f ρ k (by first | assumption | omega) (by first | assumption | omega) (by first | assumption | omega)) 0 dX7_thoseThatCouldSetOffThemselves_17 rfl wl_X7_58 rfl rfl rfl (pm_sel [2, 0, 1] 3 (by decide +kernel) rfl rfl) rfl rfl (Nat.le_of_ble_eq_true rfl) (Nat.le_of_ble_eq_true rfl) (Nat.le_of_ble_eq_true rfl) (Nat.zero_le _) (Nat.zero_le _) (fun v9 w9 R_4 => ?_)
        obtain ⟨rfl, rfl⟩ := R_4
        show WW κ 0 0 [(h, .inr (7, [.ref s])), (s, .inr (4, [.int (nI 12), .int (nI 8), .ref b, .int (nI ρ.1)])), (b, aI (kG κ) 96 f)] 20 [(0, .ref h), (1, .int (nI a)), (2, .int (nI k))] [.int (bC (slfB ρ k = true))]
        refine b_if_eq (tg := 29) (nx := 23) C dX7_thoseThatCouldSetOffThemselves_20 rfl rfl (fun h_5 => ?_) (fun h_5 => ?_)
        · refine w_iinc (nx := 32) (lo2 := [(2, .int (nI (k + 1))), (0, .ref h), (1, .int (nI a))]) C (nI (k + 1)) 2 dX7_thoseThatCouldSetOffThemselves_29 rfl rfl (nI_add _ _) (by decide) rfl ?_
          refine w_goto (nx := 4) C dX7_thoseThatCouldSetOffThemselves_32 rfl ?_
          refine ww_lo [1, 2, 0] (lo' := [(0, .ref h), (1, .int (nI a)), (2, .int (nI (k + 1)))]) rfl ?_
          exact ih9_4 (k + 1) a (by first | assumption | omega) (by show _ = (if _ then _ else _); first | rw [if_pos (by assumption), ← ha] | rw [if_neg (by assumption), ← ha]) (by omega)
        · refine w_iload_n (nx := 24) C 1 dX7_thoseThatCouldSetOffThemselves_23 rfl rfl rfl ?_
          refine w_iconst (nx := 25) C (nI 1) dX7_thoseThatCouldSetOffThemselves_24 rfl (by decide) ?_
          refine w_iload_n (nx := 26) C 2 dX7_thoseThatCouldSetOffThemselves_25 rfl rfl rfl ?_
          refine w_ishl (nx := 27) C (nI (2 ^ k)) dX7_thoseThatCouldSetOffThemselves_26 rfl (sh1 k (by omega)) ?_
          refine w_ior (nx := 28) C (nI (a ||| 2 ^ k)) dX7_thoseThatCouldSetOffThemselves_27 rfl (nI_or _ _) ?_
          refine w_istore_n (nx := 29) (lo2 := [(1, .int (nI (a ||| 2 ^ k))), (0, .ref h), (2, .int (nI k))]) C dX7_thoseThatCouldSetOffThemselves_28 rfl rfl (by decide) rfl ?_
          refine w_iinc (nx := 32) (lo2 := [(2, .int (nI (k + 1))), (1, .int (nI (a ||| 2 ^ k))), (0, .ref h)]) C (nI (k + 1)) 2 dX7_thoseThatCouldSetOffThemselves_29 rfl rfl (nI_add _ _) (by decide) rfl ?_
          refine w_goto (nx := 4) C dX7_thoseThatCouldSetOffThemselves_32 rfl ?_
          refine ww_lo [2, 1, 0] (lo' := [(0, .ref h), (1, .int (nI (a ||| 2 ^ k))), (2, .int (nI (k + 1)))]) rfl ?_
          exact ih9_4 (k + 1) (a ||| 2 ^ k) (by first | assumption | omega) (by show _ = (if _ then _ else _); first | rw [if_pos (by assumption), ← ha] | rw [if_neg (by assumption), ← ha]) (by omega)
  refine ww_lo [2, 1, 0] (lo' := [(0, .ref h), (1, .int (nI 0)), (2, .int (nI 0))]) rfl ?_
  exact LP_1 _ 0 0 (by first | assumption | omega) (rfl) (Nat.lt_succ_self _)
