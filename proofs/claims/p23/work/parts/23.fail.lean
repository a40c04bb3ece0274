theorem rm_f {a k mc ms : Nat} (h : a ≤ k) : a ≤ (RM k mc ms).frames := h
theorem rm_l {a k mc ms : Nat} (h : a ≤ 64 * k) : a ≤ (RM k mc ms).locals := h
theorem dec_sub (x : Int32) : x + Int32.ofInt (-1) = x - nI 1 := by
  rw [Int32.sub_eq_add_neg]
  rfl
theorem sub1_neg {k : Nat} (hk : k < 1000) (h : nI k - nI 1 < 0) : k = 0 := by
  rcases Nat.eq_zero_or_pos k with e | e
  · exact e
  · rw [pk_sub e] at h
    exact absurd h (nI_pos (by omega))
theorem sub1_pos {k : Nat} (hk : k < 1000) (h : ¬ nI k - nI 1 < 0) : 1 ≤ k := by
  rcases Nat.eq_zero_or_pos k with e | e
  · subst e
    exact absurd (by decide) h
  · exact e
theorem tell_init {ch : List Nat} {B : Nat → BI} {j m bn : Nat} (hch : ch = bC' (B j) ++ [m]) (hj : j < bn) : nI m = nI (ch.getD (ch.length - 1) 0) ∧ ∃ f, f < bn ∧ nI j = nI f ∧ bC' (B f) = ch.take (ch.length - 1) := by
  subst hch
  refine ⟨?_, j, hj, rfl, ?_⟩
  · simp [List.getD_eq_getElem?_getD]
  · simp
theorem tell_step {fb : Nat → Int32} {B : Nat → BI} {bn f n : Nat} {ch : List Nat} (hB : rB fb bn B) (hf : f < bn) (h : bC' (B f) = ch.take n) (hn : 1 ≤ n) (hl : n ≤ ch.length) : mkr (bC' (B f)) = nI (ch.getD (n - 1) 0) ∧ ∃ f2, f2 < bn ∧ fb (f * 7 + 6) = nI f2 ∧ bC' (B f2) = ch.take (n - 1) := by
  rcases (hB f hf).2.2.2.2.2.2.2 with ⟨e, -⟩ | ⟨j, hj, e, m, hm, -, e2⟩
  · rw [h] at e
    have h2 := congrArg List.length e
    rw [List.length_take, List.length_nil] at h2
    omega
  · rw [h] at e2
    have e3 : ch.take (n - 1 + 1) = bC' (B j) ++ [m] := by rw [Nat.sub_add_cancel hn]; exact e2
    obtain ⟨a, b⟩ := take_snoc (by omega) e3
    refine ⟨?_, j, by omega, e, a⟩
    rw [h, e2, mkr_app, b]
set_option maxHeartbeats 4000000 in
set_option maxRecDepth 100000 in
theorem c_X1_clear (l : Launch) (G : GG) (h : Nat) (ca : Nat) (x1 : Int32) (x2 : Int32) (x3 : Int32) (x4 : Int32) (fc : Nat → Int32)  : MT l G yX1_clear cX1_clear 1 none 1 0 0 [.ref h] [(h, .inr (1, [.int x1, .int x2, .int x3, .int x4, .ref ca])), (ca, aI G 9 fc)] (fun v9 ws9 => v9 = none ∧ ws9 = [(h, .inr (1, [.int (nI 0), .int (-6), .int (-6), .int (nI 0), .ref ca])), (ca, aI G 9 fc)]) := by
  refine MT.of RX1 [(0, .ref h)] (by decide +kernel) rfl rfl (Nat.le_of_ble_eq_true rfl) (fun κ C E hl9 hG9 hnm9 => ?_)
  subst hl9; subst hG9
  refine w_aload_n (nx := 1) C 0 dX1_clear_0 rfl rfl rfl ?_
  refine w_iconst (nx := 2) C (nI 0) dX1_clear_1 rfl (by decide) ?_
  refine w_put (nx := 5) (ws2 := [(h, .inr (1, [.int (nI 0), .int x2, .int x3, .int x4, .ref ca])), (ca, aI (kG κ) 9 fc)]) C fc1 0 0 dX1_clear_2 rfl wl_X1_9 rfl (by decide) rfl rfl rfl (Nat.le_of_ble_eq_true rfl) rfl ?_
  refine w_aload_n (nx := 6) C 0 dX1_clear_5 rfl rfl rfl ?_
  refine w_bipush (nx := 8) C (-6) dX1_clear_6 rfl (by decide) ?_
  refine w_put (nx := 11) (ws2 := [(h, .inr (1, [.int (nI 0), .int (-6), .int x3, .int x4, .ref ca])), (ca, aI (kG κ) 9 fc)]) C fc1 0 1 dX1_clear_8 rfl wl_X1_15 rfl (by decide) rfl rfl rfl (Nat.le_of_ble_eq_true rfl) rfl ?_
  refine w_aload_n (nx := 12) C 0 dX1_clear_11 rfl rfl rfl ?_
  refine w_bipush (nx := 14) C (-6) dX1_clear_12 rfl (by decide) ?_
  refine w_put (nx := 17) (ws2 := [(h, .inr (1, [.int (nI 0), .int (-6), .int (-6), .int x4, .ref ca])), (ca, aI (kG κ) 9 fc)]) C fc1 0 2 dX1_clear_14 rfl wl_X1_18 rfl (by decide) rfl rfl rfl (Nat.le_of_ble_eq_true rfl) rfl ?_
  refine w_aload_n (nx := 18) C 0 dX1_clear_17 rfl rfl rfl ?_
  refine w_iconst (nx := 19) C (nI 0) dX1_clear_18 rfl (by decide) ?_
  refine w_put (nx := 22) (ws2 := [(h, .inr (1, [.int (nI 0), .int (-6), .int (-6), .int (nI 0), .ref ca])), (ca, aI (kG κ) 9 fc)]) C fc1 0 3 dX1_clear_19 rfl wl_X1_21 rfl (by decide) rfl rfl rfl (Nat.le_of_ble_eq_true rfl) rfl ?_
  exact w_vret C E dX1_clear_22 rfl (Nat.le_refl _) (Nat.le_refl _) ⟨rfl, rfl⟩
set_option maxHeartbeats 4000000 in
set_option maxRecDepth 100000 in
theorem c_X1_isThere (l : Launch) (G : GG) (h : Nat) (ca : Nat) (m : Nat) (x2 : Int32) (x3 : Int32) (x4 : Int32) (hm : m < 100) : MT l G yX1_isThere cX1_isThere 1 (some .boolean) 1 0 0 [.ref h] [(h, .inr (1, [.int (nI m), .int x2, .int x3, .int x4, .ref ca]))] (fun v9 ws9 => v9 = some (.int (bC (¬ m = 0))) ∧ ws9 = [(h, .inr (1, [.int (nI m), .int x2, .int x3, .int x4, .ref ca]))]) := by
  refine MT.of RX1 [(0, .ref h)] (by decide +kernel) rfl rfl (Nat.le_of_ble_eq_true rfl) (fun κ C E hl9 hG9 hnm9 => ?_)
  subst hl9; subst hG9
  refine w_aload_n (nx := 1) C 0 dX1_isThere_0 rfl rfl rfl ?_
  refine w_get (nx := 4) C fc1 (.int (nI m)) 0 0 dX1_isThere_1 rfl wl_X1_9 rfl (by decide) rfl rfl ?_
  refine n_if_eq (tg := 11) (nx := 7) C dX1_isThere_4 rfl rfl (by omega) (fun h_1 => ?_) (fun h_1 => ?_)
  · refine w_iconst (nx := 12) C (nI 0) dX1_isThere_11 rfl (by decide) ?_
    exact w_iret (ty := .boolean) C E dX1_isThere_12 rfl rfl (Nat.le_refl _) (Nat.le_refl _) ⟨(congrArg (fun z => some (Value.int z)) (bC_0 (by first | assumption | omega))), rfl⟩
  · refine w_iconst (nx := 8) C (nI 1) dX1_isThere_7 rfl (by decide) ?_
    refine w_goto (nx := 12) C dX1_isThere_8 rfl ?_
    exact w_iret (ty := .boolean) C E dX1_isThere_12 rfl rfl (Nat.le_refl _) (Nat.le_refl _) ⟨(congrArg (fun z => some (Value.int z)) (bC_1 (by first | assumption | omega))), rfl⟩
set_option maxHeartbeats 4000000 in
set_option maxRecDepth 100000 in
theorem c_X1_blamedAt (l : Launch) (G : GG) (h : Nat) (ca : Nat) (x1 : Int32) (x2 : Int32) (x3 : Int32) (m : Nat) (fc : Nat → Int32) (p : Nat) (hm : m ≤ 9) (hp : p < 100) : MT l G yX1_blamedAt cX1_blamedAt 2 (some .int) 2 0 0 [.ref h, .int (nI p)] [(h, .inr (1, [.int x1, .int x2, .int x3, .int (nI m), .ref ca])), (ca, aI G 9 fc)] (fun v9 ws9 => v9 = some (.int (if p < m then fc p else -6)) ∧ ws9 = [(h, .inr (1, [.int x1, .int x2, .int x3, .int (nI m), .ref ca])), (ca, aI G 9 fc)]) := by
  refine MT.of RX1 [(0, .ref h), (1, .int (nI p))] (by decide +kernel) rfl rfl (Nat.le_of_ble_eq_true rfl) (fun κ C E hl9 hG9 hnm9 => ?_)
  subst hl9; subst hG9
  refine w_iload_n (nx := 1) C 1 dX1_blamedAt_0 rfl rfl rfl ?_
  refine w_aload_n (nx := 2) C 0 dX1_blamedAt_1 rfl rfl rfl ?_
  refine w_get (nx := 5) C fc1 (.int (nI m)) 0 3 dX1_blamedAt_2 rfl wl_X1_21 rfl (by decide) rfl rfl ?_
  refine w_callN (nx := 8) (wr := [(h, .inr (1, [.int x1, .int x2, .int x3, .int (nI m), .ref ca])), (ca, aI (kG κ) 9 fc)]) (rest := []) C ms_X8_isWithin (c_X8_isWithin_n _ _ p m (by first | assumption | omega) (by first | assumption | omega)) dX1_blamedAt_5 rfl wx_X1_28 (pm_sel [0, 1] 2 (by decide +kernel) rfl rfl) rfl rfl (Nat.le_of_ble_eq_true rfl) (Nat.le_of_ble_eq_true rfl) (Nat.le_of_ble_eq_true rfl) (Nat.zero_le _) (Nat.zero_le _) (fun v9 w9 R_1 => ?_)
  obtain ⟨rfl, rfl⟩ := R_1
  show WW κ 0 0 [(h, .inr (1, [.int x1, .int x2, .int x3, .int (nI m), .ref ca])), (ca, aI (kG κ) 9 fc)] 8 [(0, .ref h), (1, .int (nI p))] [.int (bC (p < m))]
  refine b_if_eq (tg := 26) (nx := 11) C dX1_blamedAt_8 rfl rfl (fun h_2 => ?_) (fun h_2 => ?_)
  · refine w_bipush (nx := 28) C (-6) dX1_blamedAt_26 rfl (by decide) ?_
    exact w_iret (ty := .int) C E dX1_blamedAt_28 rfl rfl (Nat.le_refl _) (Nat.le_refl _) ⟨(congrArg (fun z => some (Value.int z)) ((if_neg (by omega)).symm)), rfl⟩
  · refine w_iload_n (nx := 12) C 1 dX1_blamedAt_11 rfl rfl rfl ?_
    refine w_bipush (nx := 14) C (nI 9) dX1_blamedAt_12 rfl (by decide) ?_
    refine n_icmp_ge (tg := 26) (nx := 17) C dX1_blamedAt_14 rfl rfl (by omega) (by omega) (fun h_3 => ?_) (fun h_3 => ?_)
    · refine w_bipush (nx := 28) C (-6) dX1_blamedAt_26 rfl (by decide) ?_
      exact w_iret (ty := .int) C E dX1_blamedAt_28 rfl rfl (Nat.le_refl _) (Nat.le_refl _) ⟨(congrArg (fun z => some (Value.int z)) ((if_neg (by omega)).symm)), rfl⟩
    · refine w_aload_n (nx := 18) C 0 dX1_blamedAt_17 rfl rfl rfl ?_
      refine w_get (nx := 21) C fc1 (.ref ca) 0 4 dX1_blamedAt_18 rfl wl_X1_24 rfl (by decide) rfl rfl ?_
      refine w_iload_n (nx := 22) C 1 dX1_blamedAt_21 rfl rfl rfl ?_
      refine w_iald (nx := 23) C (fc p) 1 p dX1_blamedAt_22 rfl rfl (by decide) rfl (by omega) rfl ?_
      refine w_goto (nx := 28) C dX1_blamedAt_23 rfl ?_
      exact w_iret (ty := .int) C E dX1_blamedAt_28 rfl rfl (Nat.le_refl _) (Nat.le_refl _) ⟨(congrArg (fun z => some (Value.int z)) ((if_pos (by omega)).symm)), rfl⟩
set_option maxHeartbeats 4000000 in
set_option maxRecDepth 100000 in
theorem c_X1_tell_o (l : Launch) (G : GG) (h : Nat) (ca : Nat) (x1 : Int32) (x2 : Int32) (x3 : Int32) (x4 : Int32) (fc : Nat → Int32) (hb : Nat) (bb : Nat) (bn : Nat) (fb : Nat → Int32) (B : Nat → BI) (why : Nat) (t : Nat) (ky : Nat) (mk : Int32)  : MT l G yX1_tell cX1_tell 10 (some .boolean) 2 0 0 [.ref h, .int (nI why), .int (nI t), .int (nI ky), .ref hb, .int (-1), .int mk] [(h, .inr (1, [.int x1, .int x2, .int x3, .int x4, .ref ca])), (ca, aI G 9 fc), (hb, .inr (4, [.int (nI 100), .int (nI 7), .ref bb, .int (nI bn)])), (bb, aI G 700 fb)] (fun v9 ws9 => ∃ (fc2 : Nat → Int32), v9 = some (.int (nI 0)) ∧ ws9 = [(h, .inr (1, [.int (nI why), .int (nI t), .int (nI ky), .int (nI 0), .ref ca])), (ca, aI G 9 fc2), (hb, .inr (4, [.int (nI 100), .int (nI 7), .ref bb, .int (nI bn)])), (bb, aI G 700 fb)] ∧ rCh fc2 []) := by
  refine MT.of RX1 [(0, .ref h), (1, .int (nI why)), (2, .int (nI t)), (3, .int (nI ky)), (4, .ref hb), (5, .int (-1)), (6, .int mk)] (by decide +kernel) rfl rfl (Nat.le_of_ble_eq_true rfl) (fun κ C E hl9 hG9 hnm9 => ?_)
  subst hl9; subst hG9
  refine w_aload_n (nx := 1) C 0 dX1_tell_0 rfl rfl rfl ?_
  refine w_iload_n (nx := 2) C 1 dX1_tell_1 rfl rfl rfl ?_
  refine w_put (nx := 5) (ws2 := [(h, .inr (1, [.int (nI why), .int x2, .int x3, .int x4, .ref ca])), (ca, aI (kG κ) 9 fc), (hb, .inr (4, [.int (nI 100), .int (nI 7), .ref bb, .int (nI bn)])), (bb, aI (kG κ) 700 fb)]) C fc1 0 0 dX1_tell_2 rfl wl_X1_9 rfl (by decide) rfl rfl rfl (Nat.le_of_ble_eq_true rfl) rfl ?_
  refine w_aload_n (nx := 6) C 0 dX1_tell_5 rfl rfl rfl ?_
  refine w_iload_n (nx := 7) C 2 dX1_tell_6 rfl rfl rfl ?_
  refine w_put (nx := 10) (ws2 := [(h, .inr (1, [.int (nI why), .int (nI t), .int x3, .int x4, .ref ca])), (ca, aI (kG κ) 9 fc), (hb, .inr (4, [.int (nI 100), .int (nI 7), .ref bb, .int (nI bn)])), (bb, aI (kG κ) 700 fb)]) C fc1 0 1 dX1_tell_7 rfl wl_X1_15 rfl (by decide) rfl rfl rfl (Nat.le_of_ble_eq_true rfl) rfl ?_
  refine w_aload_n (nx := 11) C 0 dX1_tell_10 rfl rfl rfl ?_
  refine w_iload_n (nx := 12) C 3 dX1_tell_11 rfl rfl rfl ?_
  refine w_put (nx := 15) (ws2 := [(h, .inr (1, [.int (nI why), .int (nI t), .int (nI ky), .int x4, .ref ca])), (ca, aI (kG κ) 9 fc), (hb, .inr (4, [.int (nI 100), .int (nI 7), .ref bb, .int (nI bn)])), (bb, aI (kG κ) 700 fb)]) C fc1 0 2 dX1_tell_12 rfl wl_X1_18 rfl (by decide) rfl rfl rfl (Nat.le_of_ble_eq_true rfl) rfl ?_
  refine w_aload_n (nx := 16) C 0 dX1_tell_15 rfl rfl rfl ?_
  refine w_iload (nx := 18) C 5 dX1_tell_16 rfl rfl ?_
  refine w_iconst (nx := 19) C (-1) dX1_tell_18 rfl (by decide) ?_
  refine w_icmp_ne (tg := 26) (nx := 22) C dX1_tell_19 rfl rfl (fun q9 => absurd (by decide) q9) (fun _ => ?_)
  refine w_iconst (nx := 23) C (nI 0) dX1_tell_22 rfl (by decide) ?_
  refine w_goto (nx := 41) C dX1_tell_23 rfl ?_
  refine w_put (nx := 44) (ws2 := [(h, .inr (1, [.int (nI why), .int (nI t), .int (nI ky), .int (nI 0), .ref ca])), (ca, aI (kG κ) 9 fc), (hb, .inr (4, [.int (nI 100), .int (nI 7), .ref bb, .int (nI bn)])), (bb, aI (kG κ) 700 fb)]) C fc1 0 3 dX1_tell_41 rfl wl_X1_21 rfl (by decide) rfl rfl rfl (Nat.le_of_ble_eq_true rfl) rfl ?_
  refine w_iload (nx := 46) C 5 dX1_tell_44 rfl rfl ?_
  refine w_istore (nx := 48) (lo2 := [(7, .int (-1)), (0, .ref h), (1, .int (nI why)), (2, .int (nI t)), (3, .int (nI ky)), (4, .ref hb), (5, .int (-1)), (6, .int mk)]) C dX1_tell_46 rfl (by decide) rfl ?_
  refine w_iload (nx := 50) C 7 dX1_tell_48 rfl rfl ?_
  refine w_istore (nx := 52) (lo2 := [(8, .int mk), (7, .int (-1)), (0, .ref h), (1, .int (nI why)), (2, .int (nI t)), (3, .int (nI ky)), (4, .ref hb), (5, .int (-1)), (6, .int mk)]) C dX1_tell_50 rfl (by decide) rfl ?_
  refine w_aload_n (nx := 53) C 2 dX1_tell_52 rfl rfl rfl ?_
  refine w_get (nx := 56) C fc1 (.int (nI 0)) 0 3 dX1_tell_53 rfl wl_X1_21 rfl (by decide) rfl rfl ?_
  refine w_iconst (nx := 57) C (nI 1) dX1_tell_56 rfl (by decide) ?_
  refine w_isub (nx := 58) C (-1) dX1_tell_57 rfl (by decide) ?_
  refine w_istore (nx := 60) (lo2 := [(9, .int (-1)), (8, .int mk), (7, .int (-1)), (0, .ref h), (1, .int (nI why)), (2, .int (nI t)), (3, .int (nI ky)), (4, .ref hb), (5, .int (-1)), (6, .int mk)]) C dX1_tell_58 rfl (by decide) rfl ?_
  refine w_iload (nx := 62) C 0 dX1_tell_60 rfl rfl ?_
  refine w_if_lt (tg := 101) (nx := 65) C dX1_tell_62 rfl rfl (fun _ => ?_) (fun q9 => absurd (by decide) q9)
  refine w_iconst (nx := 102) C (nI 0) dX1_tell_101 rfl (by decide) ?_
  exact w_iret (ty := .boolean) C E dX1_tell_102 rfl rfl (Nat.le_refl _) (Nat.le_refl _) ⟨_, rfl, rfl, (fun k hk => absurd hk (Nat.not_lt_zero _))⟩
set_option maxHeartbeats 4000000 in
set_option maxRecDepth 100000 in
theorem c_X1_tell_c (l : Launch) (G : GG) (h : Nat) (ca : Nat) (x1 : Int32) (x2 : Int32) (x3 : Int32) (x4 : Int32) (fc : Nat → Int32) (hb : Nat) (bb : Nat) (bn : Nat) (fb : Nat → Int32) (B : Nat → BI) (why : Nat) (t : Nat) (ky : Nat) (j : Nat) (m : Nat) (ch : List Nat) (hB : rB fb bn B) (hbn : bn ≤ 100) (hj : j < bn) (hch : ch = bC' (B j) ++ [m]) (hl : ch.length = (bC' (B j)).length + 1) (hc : ch.length ≤ 9) : MT l G yX1_tell cX1_tell 10 (some .boolean) 2 0 0 [.ref h, .int (nI why), .int (nI t), .int (nI ky), .ref hb, .int (nI j), .int (nI m)] [(h, .inr (1, [.int x1, .int x2, .int x3, .int x4, .ref ca])), (ca, aI G 9 fc), (hb, .inr (4, [.int (nI 100), .int (nI 7), .ref bb, .int (nI bn)])), (bb, aI G 700 fb)] (fun v9 ws9 => ∃ (fc2 : Nat → Int32), v9 = some (.int (nI 0)) ∧ ws9 = [(h, .inr (1, [.int (nI why), .int (nI t), .int (nI ky), .int (nI ch.length), .ref ca])), (ca, aI G 9 fc2), (hb, .inr (4, [.int (nI 100), .int (nI 7), .ref bb, .int (nI bn)])), (bb, aI G 700 fb)] ∧ rCh fc2 ch) := by
  refine MT.of RX1 [(0, .ref h), (1, .int (nI why)), (2, .int (nI t)), (3, .int (nI ky)), (4, .ref hb), (5, .int (nI j)), (6, .int (nI m))] (by decide +kernel) rfl rfl (Nat.le_of_ble_eq_true rfl) (fun κ C E hl9 hG9 hnm9 => ?_)
  subst hl9; subst hG9
  refine w_aload_n (nx := 1) C 0 dX1_tell_0 rfl rfl rfl ?_
  refine w_iload_n (nx := 2) C 1 dX1_tell_1 rfl rfl rfl ?_
  refine w_put (nx := 5) (ws2 := [(h, .inr (1, [.int (nI why), .int x2, .int x3, .int x4, .ref ca])), (ca, aI (kG κ) 9 fc), (hb, .inr (4, [.int (nI 100), .int (nI 7), .ref bb, .int (nI bn)])), (bb, aI (kG κ) 700 fb)]) C fc1 0 0 dX1_tell_2 rfl wl_X1_9 rfl (by decide) rfl rfl rfl (Nat.le_of_ble_eq_true rfl) rfl ?_
  refine w_aload_n (nx := 6) C 0 dX1_tell_5 rfl rfl rfl ?_
  refine w_iload_n (nx := 7) C 2 dX1_tell_6 rfl rfl rfl ?_
  refine w_put (nx := 10) (ws2 := [(h, .inr (1, [.int (nI why), .int (nI t), .int x3, .int x4, .ref ca])), (ca, aI (kG κ) 9 fc), (hb, .inr (4, [.int (nI 100), .int (nI 7), .ref bb, .int (nI bn)])), (bb, aI (kG κ) 700 fb)]) C fc1 0 1 dX1_tell_7 rfl wl_X1_15 rfl (by decide) rfl rfl rfl (Nat.le_of_ble_eq_true rfl) rfl ?_
  refine w_aload_n (nx := 11) C 0 dX1_tell_10 rfl rfl rfl ?_
  refine w_iload_n (nx := 12) C 3 dX1_tell_11 rfl rfl rfl ?_
  refine w_put (nx := 15) (ws2 := [(h, .inr (1, [.int (nI why), .int (nI t), .int (nI ky), .int x4, .ref ca])), (ca, aI (kG κ) 9 fc), (hb, .inr (4, [.int (nI 100), .int (nI 7), .ref bb, .int (nI bn)])), (bb, aI (kG κ) 700 fb)]) C fc1 0 2 dX1_tell_12 rfl wl_X1_18 rfl (by decide) rfl rfl rfl (Nat.le_of_ble_eq_true rfl) rfl ?_
  refine w_aload_n (nx := 16) C 0 dX1_tell_15 rfl rfl rfl ?_
  refine w_iload (nx := 18) C 5 dX1_tell_16 rfl rfl ?_
  refine w_iconst (nx := 19) C (-1) dX1_tell_18 rfl (by decide) ?_
  refine w_icmp_ne (tg := 26) (nx := 22) C dX1_tell_19 rfl rfl (fun _ => ?_) (fun q9 => absurd q9 (nI_nneg (by omega) (by decide)))
  refine w_aload (nx := 28) C 4 dX1_tell_26 rfl rfl ?_
  refine w_iload (nx := 30) C 5 dX1_tell_28 rfl rfl ?_
  refine w_iconst (nx := 31) C (nI 4) dX1_tell_30 rfl (by decide) ?_
  refine w_callV (nx := 34) (wr := [(h, .inr (1, [.int (nI why), .int (nI t), .int (nI ky), .int x4, .ref ca])), (ca, aI (kG κ) 9 fc)]) (rest := [.ref h]) C mi_X4_get (c_X4_get_n _ _ hb bb 100 7 bn 700 fb j 4 ((bC' (B j)).length) (by first | assumption | omega) (by first | assumption | omega) (by first | assumption | omega) (by first | assumption | omega) (by first | assumption | omega) (by first | assumption | omega) (by first | assumption | omega) ((hB j hj).2.2.2.2.2.1)) 0 dX1_tell_31 rfl wl_X1_34 rfl rfl rfl (pm_sel [2, 3, 0, 1] 4 (by decide +kernel) rfl rfl) rfl rfl (Nat.le_of_ble_eq_true rfl) (Nat.le_of_ble_eq_true rfl) (Nat.le_of_ble_eq_true rfl) (Nat.zero_le _) (Nat.zero_le _) (fun v9 w9 R_2 => ?_)
  obtain ⟨rfl, rfl⟩ := R_2
  show WW κ 0 0 [(hb, .inr (4, [.int (nI 100), .int (nI 7), .ref bb, .int (nI bn)])), (bb, aI (kG κ) 700 fb), (h, .inr (1, [.int (nI why), .int (nI t), .int (nI ky), .int x4, .ref ca])), (ca, aI (kG κ) 9 fc)] 34 [(0, .ref h), (1, .int (nI why)), (2, .int (nI t)), (3, .int (nI ky)), (4, .ref hb), (5, .int (nI j)), (6, .int (nI m))] [.int (nI ((bC' (B j)).length)), .ref h]
  refine w_iconst (nx := 35) C (nI 1) dX1_tell_34 rfl (by decide) ?_
  refine w_iadd (nx := 36) C (nI (((bC' (B j)).length) + 1)) dX1_tell_35 rfl (nI_add _ _) ?_
  refine w_bipush (nx := 38) C (nI 9) dX1_tell_36 rfl (by decide) ?_
  refine w_min (nx := 41) (rest := [.ref h]) C (nI ch.length) dX1_tell_38 rfl wl_X1_40 (Nat.le_of_ble_eq_true rfl) (Nat.le_of_ble_eq_true rfl) (Nat.zero_le _) (Nat.zero_le _) ((if_neg (nI_nlt (by omega) (by omega))).trans (congrArg nI hl.symm)) ?_
  refine w_put (nx := 44) (ws2 := [(hb, .inr (4, [.int (nI 100), .int (nI 7), .ref bb, .int (nI bn)])), (bb, aI (kG κ) 700 fb), (h, .inr (1, [.int (nI why), .int (nI t), .int (nI ky), .int (nI ch.length), .ref ca])), (ca, aI (kG κ) 9 fc)]) C fc1 2 3 dX1_tell_41 rfl wl_X1_21 rfl (by decide) rfl rfl rfl (Nat.le_of_ble_eq_true rfl) rfl ?_
  refine w_iload (nx := 46) C 5 dX1_tell_44 rfl rfl ?_
  refine w_istore (nx := 48) (lo2 := [(7, .int (nI j)), (0, .ref h), (1, .int (nI why)), (2, .int (nI t)), (3, .int (nI ky)), (4, .ref hb), (5, .int (nI j)), (6, .int (nI m))]) C dX1_tell_46 rfl (by decide) rfl ?_
  refine w_iload (nx := 50) C 7 dX1_tell_48 rfl rfl ?_
  refine w_istore (nx := 52) (lo2 := [(8, .int (nI m)), (7, .int (nI j)), (0, .ref h), (1, .int (nI why)), (2, .int (nI t)), (3, .int (nI ky)), (4, .ref hb), (5, .int (nI j)), (6, .int (nI m))]) C dX1_tell_50 rfl (by decide) rfl ?_
  refine w_aload_n (nx := 53) C 2 dX1_tell_52 rfl rfl rfl ?_
  refine w_get (nx := 56) C fc1 (.int (nI ch.length)) 2 3 dX1_tell_53 rfl wl_X1_21 rfl (by decide) rfl rfl ?_
  refine w_iconst (nx := 57) C (nI 1) dX1_tell_56 rfl (by decide) ?_
  refine w_isub (nx := 58) C (nI ch.length - nI 1) dX1_tell_57 rfl rfl ?_
  refine w_istore (nx := 60) (lo2 := [(9, .int (nI ch.length - nI 1)), (8, .int (nI m)), (7, .int (nI j)), (0, .ref h), (1, .int (nI why)), (2, .int (nI t)), (3, .int (nI ky)), (4, .ref hb), (5, .int (nI j)), (6, .int (nI m))]) C dX1_tell_58 rfl (by decide) rfl ?_
  have LP_3 : ∀ (N9_60 : Nat) (k : Nat) (fr : Int32) (lk : Int32) (fc2 : Nat → Int32), (k ≤ ch.length) → (∀ q, k ≤ q → q < ch.length → fc2 q = nI (ch.getD q 0)) → (1 ≤ k → lk = nI (ch.getD (k - 1) 0) ∧ ∃ f, f < bn ∧ fr = nI f ∧ bC' (B f) = ch.take (k - 1)) → k < N9_60 → WW κ 0 0 [(h, .inr (1, [.int (nI why), .int (nI t), .int (nI ky), .int (nI ch.length), .ref ca])), (ca, aI (kG κ) 9 fc2), (hb, .inr (4, [.int (nI 100), .int (nI 7), .ref bb, .int (nI bn)])), (bb, aI (kG κ) 700 fb)] 60 [(0, .ref h), (4, .ref hb), (7, .int fr), (8, .int lk), (9, .int (nI k - nI 1))] [] := by
    intro N9_60
    induction N9_60 with
    | zero => intro k fr lk fc2 hk hq hlk hm9_60; exact absurd hm9_60 (Nat.not_lt_zero _)
    | succ N9_60 ih9_60 =>
      intro k fr lk fc2 hk hq hlk hm9_60
      refine w_iload (nx := 62) C 4 dX1_tell_60 rfl rfl ?_
      refine w_if_lt (tg := 101) (nx := 65) C dX1_tell_62 rfl rfl (fun h_4 => ?_) (fun h_4 => ?_)
      · have hk0 := sub1_neg (by omega) h_4
        refine w_iconst (nx := 102) C (nI 0) dX1_tell_101 rfl (by decide) ?_
        exact w_iret (ty := .boolean) C E dX1_tell_102 rfl rfl (Nat.le_refl _) (Nat.le_refl _) ⟨_, rfl, rfl, (fun q hq9 => hq q (by omega) hq9)⟩
      · have hk1 := sub1_pos (by omega) h_4
        obtain ⟨hl9, f, hf9, hfr9, hch9⟩ := hlk hk1
        subst hl9; subst hfr9
        rw [pk_sub hk1]
        refine w_aload_n (nx := 66) C 0 dX1_tell_65 rfl rfl rfl ?_
        refine w_get (nx := 69) C fc1 (.ref ca) 0 4 dX1_tell_66 rfl wl_X1_24 rfl (by decide) rfl rfl ?_
        refine w_iload (nx := 71) C 4 dX1_tell_69 rfl rfl ?_
        refine w_iload (nx := 73) C 3 dX1_tell_71 rfl rfl ?_
        refine w_iast (nx := 74) (ws2 := [(h, .inr (1, [.int (nI why), .int (nI t), .int (nI ky), .int (nI ch.length), .ref ca])), (ca, aI (kG κ) 9 (upd fc2 (k - 1) (nI (ch.getD (k - 1) 0)))), (hb, .inr (4, [.int (nI 100), .int (nI 7), .ref bb, .int (nI bn)])), (bb, aI (kG κ) 700 fb)]) C 1 (k - 1) dX1_tell_73 rfl rfl (by decide) rfl (by omega) rfl ?_
        refine w_aload (nx := 76) C 1 dX1_tell_74 rfl rfl ?_
        refine w_iload (nx := 78) C 2 dX1_tell_76 rfl rfl ?_
        refine w_iconst (nx := 79) C (nI 5) dX1_tell_78 rfl (by decide) ?_
        refine w_callV (nx := 82) (wr := [(h, .inr (1, [.int (nI why), .int (nI t), .int (nI ky), .int (nI ch.length), .ref ca])), (ca, aI (kG κ) 9 (upd fc2 (k - 1) (nI (ch.getD (k - 1) 0))))]) (rest := []) C mi_X4_get (c_X4_get _ _ hb bb 100 7 bn 700 fb f 5 (mkr (bC' (B f))) (by first | assumption | omega) (by first | assumption | omega) (by first | assumption | omega) (by first | assumption | omega) (by first | assumption | omega) (by first | assumption | omega) (by first | assumption | omega) ((hB f hf9).2.2.2.2.2.2.1)) 0 dX1_tell_79 rfl wl_X1_34 rfl rfl rfl (pm_sel [2, 3, 0, 1] 4 (by decide +kernel) rfl rfl) rfl rfl (Nat.le_of_ble_eq_true rfl) (Nat.le_of_ble_eq_true rfl) (Nat.le_of_ble_eq_true rfl) (Nat.zero_le _) (Nat.zero_le _) (fun v9 w9 R_5 => ?_)
        obtain ⟨rfl, rfl⟩ := R_5
        show WW κ 0 0 [(hb, .inr (4, [.int (nI 100), .int (nI 7), .ref bb, .int (nI bn)])), (bb, aI (kG κ) 700 fb), (h, .inr (1, [.int (nI why), .int (nI t), .int (nI ky), .int (nI ch.length), .ref ca])), (ca, aI (kG κ) 9 (upd fc2 (k - 1) (nI (ch.getD (k - 1) 0))))] 82 [(0, .ref h), (4, .ref hb), (7, .int (nI f)), (8, .int (nI (ch.getD (k - 1) 0))), (9, .int (nI (k - 1)))] [.int (mkr (bC' (B f)))]
        refine w_istore (nx := 84) (lo2 := [(8, .int (mkr (bC' (B f)))), (0, .ref h), (4, .ref hb), (7, .int (nI f)), (9, .int (nI (k - 1)))]) C dX1_tell_82 rfl (by decide) rfl ?_
        refine w_aload (nx := 86) C 2 dX1_tell_84 rfl rfl ?_
        refine w_iload (nx := 88) C 3 dX1_tell_86 rfl rfl ?_
        refine w_bipush (nx := 90) C (nI 6) dX1_tell_88 rfl (by decide) ?_
        refine w_callV (nx := 93) (wr := [(h, .inr (1, [.int (nI why), .int (nI t), .int (nI ky), .int (nI ch.length), .ref ca])), (ca, aI (kG κ) 9 (upd fc2 (k - 1) (nI (ch.getD (k - 1) 0))))]) (rest := []) C mi_X4_get (c_X4_get _ _ hb bb 100 7 bn 700 fb f 6 (fb (f * 7 + 6)) (by first | assumption | omega) (by first | assumption | omega) (by first | assumption | omega) (by first | assumption | omega) (by first | assumption | omega) (by first | assumption | omega) (by first | assumption | omega) (rfl)) 0 dX1_tell_90 rfl wl_X1_34 rfl rfl rfl (pm_sel [0, 1, 2, 3] 4 (by decide +kernel) rfl rfl) rfl rfl (Nat.le_of_ble_eq_true rfl) (Nat.le_of_ble_eq_true rfl) (Nat.le_of_ble_eq_true rfl) (Nat.zero_le _) (Nat.zero_le _) (fun v9 w9 R_6 => ?_)
        obtain ⟨rfl, rfl⟩ := R_6
        show WW κ 0 0 [(hb, .inr (4, [.int (nI 100), .int (nI 7), .ref bb, .int (nI bn)])), (bb, aI (kG κ) 700 fb), (h, .inr (1, [.int (nI why), .int (nI t), .int (nI ky), .int (nI ch.length), .ref ca])), (ca, aI (kG κ) 9 (upd fc2 (k - 1) (nI (ch.getD (k - 1) 0))))] 93 [(8, .int (mkr (bC' (B f)))), (0, .ref h), (4, .ref hb), (7, .int (nI f)), (9, .int (nI (k - 1)))] [.int (fb (f * 7 + 6))]
        refine w_istore (nx := 95) (lo2 := [(7, .int (fb (f * 7 + 6))), (8, .int (mkr (bC' (B f)))), (0, .ref h), (4, .ref hb), (9, .int (nI (k - 1)))]) C dX1_tell_93 rfl (by decide) rfl ?_
        refine w_iinc (nx := 98) (lo2 := [(9, .int (nI (k - 1) - nI 1)), (7, .int (fb (f * 7 + 6))), (8, .int (mkr (bC' (B f)))), (0, .ref h), (4, .ref hb)]) C (nI (k - 1) - nI 1) 4 dX1_tell_95 rfl rfl (dec_sub _) (by decide) rfl ?_
        refine w_goto (nx := 60) C dX1_tell_98 rfl ?_
        refine ww_sel (l := [(h, .inr (1, [.int (nI why), .int (nI t), .int (nI ky), .int (nI ch.length), .ref ca])), (ca, aI (kG κ) 9 (upd fc2 (k - 1) (nI (ch.getD (k - 1) 0)))), (hb, .inr (4, [.int (nI 100), .int (nI 7), .ref bb, .int (nI bn)])), (bb, aI (kG κ) 700 fb)]) (pm_sel [2, 3, 0, 1] 4 (by decide +kernel) rfl rfl) ?_
        refine ww_lo [3, 4, 1, 2, 0] (lo' := [(0, .ref h), (4, .ref hb), (7, .int (fb (f * 7 + 6))), (8, .int (mkr (bC' (B f)))), (9, .int (nI (k - 1) - nI 1))]) rfl ?_
        exact ih9_60 (k - 1) (fb (f * 7 + 6)) (mkr (bC' (B f))) (upd fc2 (k - 1) (nI (ch.getD (k - 1) 0))) (by first | assumption | omega) (fun q a b => (Nat.lt_or_ge q k).elim (fun z => by have e9 : q = k - 1 := (by omega); subst e9; exact upd_e rfl) (fun z => (upd_n (by omega)).trans (hq q z b))) (fun h9 => tell_step hB hf9 hch9 h9 (by omega)) (by omega)
  refine ww_sel (l := [(h, .inr (1, [.int (nI why), .int (nI t), .int (nI ky), .int (nI ch.length), .ref ca])), (ca, aI (kG κ) 9 fc), (hb, .inr (4, [.int (nI 100), .int (nI 7), .ref bb, .int (nI bn)])), (bb, aI (kG κ) 700 fb)]) (pm_sel [2, 3, 0, 1] 4 (by decide +kernel) rfl rfl) ?_
  refine ww_lo [3, 7, 2, 1, 0] (lo' := [(0, .ref h), (4, .ref hb), (7, .int (nI j)), (8, .int (nI m)), (9, .int (nI ch.length - nI 1))]) rfl ?_
  exact LP_3 _ ch.length (nI j) (nI m) fc (Nat.le_refl _) (fun q a b => absurd b (by omega)) (fun _ => tell_init hch hj) (Nat.lt_succ_self _)
theorem c_X1_tell (l : Launch) (G : GG) (h : Nat) (ca : Nat) (x1 : Int32) (x2 : Int32) (x3 : Int32) (x4 : Int32) (fc : Nat → Int32) (hb : Nat) (bb : Nat) (bn : Nat) (fb : Nat → Int32) (B : Nat → BI) (why : Nat) (t : Nat) (ky : Nat) (cs : Int32) (mk : Int32) (ch : List Nat) (hB : rB fb bn B) (hbn : bn ≤ 100) (hl : lnk cs mk ch bn B) (hc : ch.length ≤ 9) : MT l G yX1_tell cX1_tell 10 (some .boolean) 2 0 0 [.ref h, .int (nI why), .int (nI t), .int (nI ky), .ref hb, .int cs, .int mk] [(h, .inr (1, [.int x1, .int x2, .int x3, .int x4, .ref ca])), (ca, aI G 9 fc), (hb, .inr (4, [.int (nI 100), .int (nI 7), .ref bb, .int (nI bn)])), (bb, aI G 700 fb)] (fun v9 ws9 => ∃ (fc2 : Nat → Int32), v9 = some (.int (nI 0)) ∧ ws9 = [(h, .inr (1, [.int (nI why), .int (nI t), .int (nI ky), .int (nI ch.length), .ref ca])), (ca, aI G 9 fc2), (hb, .inr (4, [.int (nI 100), .int (nI 7), .ref bb, .int (nI bn)])), (bb, aI G 700 fb)] ∧ rCh fc2 ch) := by
  rcases hl with ⟨rfl, rfl, rfl⟩ | ⟨j, hj, rfl, m, hm, rfl, e⟩
  · exact c_X1_tell_o l G h ca x1 x2 x3 x4 fc hb bb bn fb B why t ky (-6)
  · exact c_X1_tell_c l G h ca x1 x2 x3 x4 fc hb bb bn fb B why t ky j m ch hB hbn hj e (by rw [e]; simp) hc
