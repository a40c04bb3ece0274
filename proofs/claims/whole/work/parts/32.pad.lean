set_option maxHeartbeats 4000000 in
set_option maxRecDepth 100000 in
theorem c_X3_length (l : Launch) (G : GG) (p : Nat → Nat) (z : Int32) (a : Int32)  : MT l G yX3_length cX3_length 1 (some .int) 1 0 0 [.ref (p 0)] [(p 0, .inr (3, [.ref (p 1), .ref (p 2), .int z, .int a]))] (fun v9 ws9 => v9 = some (.int z) ∧ ws9 = [(p 0, .inr (3, [.ref (p 1), .ref (p 2), .int z, .int a]))]) := by
  refine MT.of RX3 [(0, .ref (p 0))] (by decide +kernel) rfl rfl (Nat.le_of_ble_eq_true rfl) (fun κ C E hl9 hG9 hnm9 => ?_)
  subst hl9; subst hG9
  refine w_aload_n (nx := 1) C 0 dX3_length_0 rfl rfl rfl ?_
  refine w_get (nx := 4) C fc3 (.int z) 0 2 dX3_length_1 rfl wl_X3_24 rfl (by decide) rfl rfl ?_
  exact w_iret (ty := .int) C E dX3_length_4 rfl rfl (Nat.le_refl _) (Nat.le_refl _) ⟨rfl, rfl⟩
set_option maxHeartbeats 4000000 in
set_option maxRecDepth 100000 in
theorem c_X3_clear (l : Launch) (G : GG) (p : Nat → Nat) (z : Int32) (a : Int32)  : MT l G yX3_clear cX3_clear 1 none 1 0 0 [.ref (p 0)] [(p 0, .inr (3, [.ref (p 1), .ref (p 2), .int z, .int a]))] (fun v9 ws9 => v9 = none ∧ ws9 = [(p 0, .inr (3, [.ref (p 1), .ref (p 2), .int (nI 0), .int a]))]) := by
  refine MT.of RX3 [(0, .ref (p 0))] (by decide +kernel) rfl rfl (Nat.le_of_ble_eq_true rfl) (fun κ C E hl9 hG9 hnm9 => ?_)
  subst hl9; subst hG9
  refine w_aload_n (nx := 1) C 0 dX3_clear_0 rfl rfl rfl ?_
  refine w_iconst (nx := 2) C (nI 0) dX3_clear_1 rfl (by decide) ?_
  refine w_put (nx := 5) (ws2 := [(p 0, .inr (3, [.ref (p 1), .ref (p 2), .int (nI 0), .int a]))]) C fc3 0 2 dX3_clear_2 rfl wl_X3_24 rfl (by decide) rfl rfl rfl (Nat.le_of_ble_eq_true rfl) rfl ?_
  exact w_vret C E dX3_clear_5 rfl (Nat.le_refl _) (Nat.le_refl _) ⟨rfl, rfl⟩
set_option maxHeartbeats 4000000 in
set_option maxRecDepth 100000 in
theorem c_X3_signsIn (l : Launch) (G : GG) (c : Int64)  : MT l G yX3_signsIn cX3_signsIn 6 (some .int) 1 0 0 [.long c] [] (fun v9 ws9 => v9 = some (.int (nI (sgnN (uL c) 8 0))) ∧ ws9 = []) := by
  refine MT.of RX3 [(0, .long c)] (by decide +kernel) rfl rfl (Nat.le_of_ble_eq_true rfl) (fun κ C E hl9 hG9 hnm9 => ?_)
  subst hl9; subst hG9
  refine w_lload_n (nx := 1) C 0 dX3_signsIn_0 rfl rfl rfl ?_
  refine w_lstore_n (nx := 2) (lo2 := [(2, .long c), (0, .long c)]) C dX3_signsIn_1 rfl rfl (by decide) rfl ?_
  refine w_iconst (nx := 3) C (nI 0) dX3_signsIn_2 rfl (by decide) ?_
  refine w_istore (nx := 5) (lo2 := [(4, .int (nI 0)), (2, .long c), (0, .long c)]) C dX3_signsIn_3 rfl (by decide) rfl ?_
  have LP_1 : ∀ (N9_5 : Nat) (j : Nat) (q : Int64), (j ≤ 8) → (uL q = uL c / 256 ^ j) → (sgnN (uL c) 8 0 = sgnN (uL c) (8 - j) j) → (8 - j) < N9_5 → WW κ 0 0 [] 5 [(0, .long c), (2, .long q), (4, .int (nI j))] [] := by
    intro N9_5
    induction N9_5 with
    | zero => intro j q hj hq hs hm9_5; exact absurd hm9_5 (Nat.not_lt_zero _)
    | succ N9_5 ih9_5 =>
      intro j q hj hq hs hm9_5
      refine w_iload (nx := 7) C 2 dX3_signsIn_5 rfl rfl ?_
      refine w_bipush (nx := 9) C (nI 8) dX3_signsIn_7 rfl (by decide) ?_
      refine n_icmp_ge (tg := 53) (nx := 12) C dX3_signsIn_9 rfl rfl (by omega) (by omega) (fun h_2 => ?_) (fun h_2 => ?_)
      · refine w_iload (nx := 55) C 2 dX3_signsIn_53 rfl rfl ?_
        exact w_iret (ty := .int) C E dX3_signsIn_55 rfl rfl (Nat.le_refl _) (Nat.le_refl _) ⟨(congrArg (fun z => some (Value.int z)) (congrArg nI (hs.trans (sgn_j (by omega))).symm)), rfl⟩
      · refine w_lload_n (nx := 13) C 1 dX3_signsIn_12 rfl rfl rfl ?_
        refine w_lconst (nx := 14) C 0 dX3_signsIn_13 rfl (by decide) ?_
        refine w_lcmp (nx := 15) C (lg_cmp q 0) dX3_signsIn_14 rfl rfl ?_
        refine w_if_eq (tg := 53) (nx := 18) C dX3_signsIn_15 rfl rfl (fun h_3 => ?_) (fun h_3 => ?_)
        · have hz9 : uL q = 0 := uL_0.mp h_3
          refine w_iload (nx := 55) C 2 dX3_signsIn_53 rfl rfl ?_
          exact w_iret (ty := .int) C E dX3_signsIn_55 rfl rfl (Nat.le_refl _) (Nat.le_refl _) ⟨(congrArg (fun z => some (Value.int z)) (congrArg nI (hs.trans (sgn_j (Or.inr (by rw [← hq]; exact hz9)))).symm)), rfl⟩
        · have hz9 : ¬ uL q = 0 := fun e => h_3 (uL_0.mpr e)
          refine w_lload_n (nx := 19) C 1 dX3_signsIn_18 rfl rfl rfl ?_
          refine w_ldc2 (nx := 22) C 255 dX3_signsIn_19 rfl wk_X3_31 ?_
          refine w_land (nx := 23) C (q &&& 255) dX3_signsIn_22 rfl rfl ?_
          refine w_l2i (nx := 24) C (nI (byt (uL c) j)) dX3_signsIn_23 rfl ((uL_and q).trans (by rw [hq])) ?_
          have hb9 := byt_lt (uL c) j
          refine w_istore (nx := 26) (lo2 := [(5, .int (nI (byt (uL c) j))), (0, .long c), (2, .long q), (4, .int (nI j))]) C dX3_signsIn_24 rfl (by decide) rfl ?_
          refine w_iload (nx := 28) C 0 dX3_signsIn_26 rfl rfl ?_
          refine w_bipush (nx := 30) C (nI 33) dX3_signsIn_28 rfl (by decide) ?_
          refine n_icmp_lt (tg := 40) (nx := 33) C dX3_signsIn_30 rfl rfl (by omega) (by omega) (fun h_4 => ?_) (fun h_4 => ?_)
          · refine w_iconst (nx := 41) C (nI 0) dX3_signsIn_40 rfl (by decide) ?_
            exact w_iret (ty := .int) C E dX3_signsIn_41 rfl rfl (Nat.le_refl _) (Nat.le_refl _) ⟨(congrArg (fun z => some (Value.int z)) (congrArg nI (hs.trans (sgn_0 (by omega) (by rw [← hq]; exact hz9) (by omega))).symm)), rfl⟩
          · refine w_iload (nx := 35) C 0 dX3_signsIn_33 rfl rfl ?_
            refine w_bipush (nx := 37) C (nI 126) dX3_signsIn_35 rfl (by decide) ?_
            refine n_icmp_le (tg := 42) (nx := 40) C dX3_signsIn_37 rfl rfl (by omega) (by omega) (fun h_5 => ?_) (fun h_5 => ?_)
            · refine w_lload_n (nx := 43) C 2 dX3_signsIn_42 rfl rfl rfl ?_
              refine w_bipush (nx := 45) C (nI 8) dX3_signsIn_43 rfl (by decide) ?_
              refine w_lushr (nx := 46) C ((q.toUInt64 >>> ((nI 8).toInt64.toUInt64 &&& Int64.toUInt64 63)).toInt64) dX3_signsIn_45 rfl rfl ?_
              refine w_lstore_n (nx := 47) (lo2 := [(2, .long ((q.toUInt64 >>> ((nI 8).toInt64.toUInt64 &&& Int64.toUInt64 63)).toInt64)), (5, .int (nI (byt (uL c) j))), (0, .long c), (4, .int (nI j))]) C dX3_signsIn_46 rfl rfl (by decide) rfl ?_
              refine w_iinc (nx := 50) (lo2 := [(4, .int (nI (j + 1))), (2, .long ((q.toUInt64 >>> ((nI 8).toInt64.toUInt64 &&& Int64.toUInt64 63)).toInt64)), (5, .int (nI (byt (uL c) j))), (0, .long c)]) C (nI (j + 1)) 3 dX3_signsIn_47 rfl rfl (nI_add _ _) (by decide) rfl ?_
              refine w_goto (nx := 5) C dX3_signsIn_50 rfl ?_
              refine ww_lo [3, 1, 0] (lo' := [(0, .long c), (2, .long ((q.toUInt64 >>> ((nI 8).toInt64.toUInt64 &&& Int64.toUInt64 63)).toInt64)), (4, .int (nI (j + 1)))]) rfl ?_
              exact ih9_5 (j + 1) ((q.toUInt64 >>> ((nI 8).toInt64.toUInt64 &&& Int64.toUInt64 63)).toInt64) (by first | assumption | omega) (by rw [uL_shr q (s := 8) (by decide), hq, Nat.div_div_eq_div_mul]; rfl) (hs.trans (by rw [sgn_go (by omega) (by rw [← hq]; exact hz9) (by omega), show 8 - j - 1 = 8 - (j + 1) by omega])) (by omega)
            · refine w_iconst (nx := 41) C (nI 0) dX3_signsIn_40 rfl (by decide) ?_
              exact w_iret (ty := .int) C E dX3_signsIn_41 rfl rfl (Nat.le_refl _) (Nat.le_refl _) ⟨(congrArg (fun z => some (Value.int z)) (congrArg nI (hs.trans (sgn_0 (by omega) (by rw [← hq]; exact hz9) (by omega))).symm)), rfl⟩
  refine ww_lo [2, 1, 0] (lo' := [(0, .long c), (2, .long c), (4, .int (nI 0))]) rfl ?_
  exact LP_1 _ 0 c (by decide) (by rw [Nat.pow_zero, Nat.div_one]) (rfl) (Nat.lt_succ_self _)
set_option maxHeartbeats 4000000 in
set_option maxRecDepth 100000 in
theorem c_X3_append (l : Launch) (G : GG) (p : Nat → Nat) (P : PD) (fg : Nat → Int32) (a : Int32) (c : Int64) (m : Nat) (hP : rP fg P) (hw : wfP P) (hm : m ≤ 8) (hz : P.1 + m ≤ 60) : MT l G yX3_append cX3_append 5 none 1 0 0 [.ref (p 0), .long c, .int (nI m)] [(p 0, .inr (3, [.ref (p 1), .ref (p 2), .int (nI P.1), .int a])), (p 1, aC G 60 fg)] (fun v9 ws9 => ∃ (fg2 : Nat → Int32), v9 = none ∧ ws9 = [(p 0, .inr (3, [.ref (p 1), .ref (p 2), .int (nI (P.1 + m)), .int a])), (p 1, aC G 60 fg2)] ∧ rP fg2 (putP P (uL c) m)) := by
  refine MT.of RX3 [(0, .ref (p 0)), (1, .long c), (3, .int (nI m))] (by decide +kernel) rfl rfl (Nat.le_of_ble_eq_true rfl) (fun κ C E hl9 hG9 hnm9 => ?_)
  subst hl9; subst hG9
  have hz9 := hw.1
  refine w_iload_n (nx := 1) C 2 dX3_append_0 rfl rfl rfl ?_
  refine w_iconst (nx := 2) C (nI 1) dX3_append_1 rfl (by decide) ?_
  refine w_isub (nx := 3) C (nI m - nI 1) dX3_append_2 rfl rfl ?_
  refine w_istore (nx := 5) (lo2 := [(4, .int (nI m - nI 1)), (0, .ref (p 0)), (1, .long c), (3, .int (nI m))]) C dX3_append_3 rfl (by decide) rfl ?_
  have LP_1 : ∀ (N9_5 : Nat) (k : Nat) (z9 : Nat) (fg2 : Nat → Int32), (k ≤ m) → (z9 = P.1 + (m - k)) → (∀ i, i < P.1 → fg2 i = fg i) → (∀ i, P.1 ≤ i → i < z9 → fg2 i = nI (byt (uL c) (m - 1 - (i - P.1)))) → k < N9_5 → WW κ 0 0 [(p 0, .inr (3, [.ref (p 1), .ref (p 2), .int (nI z9), .int a])), (p 1, aC (kG κ) 60 fg2)] 5 [(0, .ref (p 0)), (1, .long c), (3, .int (nI m)), (4, .int (nI k - nI 1))] [] := by
    intro N9_5
    induction N9_5 with
    | zero => intro k z9 fg2 hk hz9 h1 h2 hm9_5; exact absurd hm9_5 (Nat.not_lt_zero _)
    | succ N9_5 ih9_5 =>
      intro k z9 fg2 hk hz9 h1 h2 hm9_5
      refine w_iload (nx := 7) C 3 dX3_append_5 rfl rfl ?_
      refine w_if_lt (tg := 57) (nx := 10) C dX3_append_7 rfl rfl (fun h_2 => ?_) (fun h_2 => ?_)
      · have hk0 := sub1_neg (by omega) h_2
        have e9 : z9 = P.1 + m := by omega
        subst e9
        exact w_vret C E dX3_append_57 rfl (Nat.le_refl _) (Nat.le_refl _) ⟨_, rfl, rfl, (fun i hi => by
              show fg2 i = nI (if i < P.1 then P.2 i else byt (uL c) (m - 1 - (i - P.1)))
              have hi2 : i < P.1 + m := hi
              by_cases q : i < P.1
              · rw [if_pos q, h1 i q]; exact hP i q
              · rw [if_neg q]; exact h2 i (by omega) (by omega))⟩
      · have hk1 := sub1_pos (by omega) h_2
        rw [pk_sub hk1]
        refine w_aload_n (nx := 11) C 0 dX3_append_10 rfl rfl rfl ?_
        refine w_get (nx := 14) C fc3 (.int (nI z9)) 0 2 dX3_append_11 rfl wl_X3_24 rfl (by decide) rfl rfl ?_
        refine w_bipush (nx := 16) C (nI 60) dX3_append_14 rfl (by decide) ?_
        refine n_icmp_ge (tg := 57) (nx := 19) C dX3_append_16 rfl rfl (by omega) (by omega) (fun h_3 => ?_) (fun h_3 => ?_)
        · exact absurd h_3 (by omega)
        · refine w_aload_n (nx := 20) C 0 dX3_append_19 rfl rfl rfl ?_
          refine w_get (nx := 23) C fc3 (.ref (p 1)) 0 0 dX3_append_20 rfl wl_X3_9 rfl (by decide) rfl rfl ?_
          refine w_aload_n (nx := 24) C 0 dX3_append_23 rfl rfl rfl ?_
          refine w_get (nx := 27) C fc3 (.int (nI z9)) 0 2 dX3_append_24 rfl wl_X3_24 rfl (by decide) rfl rfl ?_
          refine w_lload_n (nx := 28) C 1 dX3_append_27 rfl rfl rfl ?_
          refine w_bipush (nx := 30) C (nI 8) dX3_append_28 rfl (by decide) ?_
          refine w_iload (nx := 32) C 3 dX3_append_30 rfl rfl ?_
          refine w_imul (nx := 33) C (nI (8 * (k - 1))) dX3_append_32 rfl (pk_mul _ _) ?_
          refine w_lushr (nx := 34) C ((c.toUInt64 >>> ((nI (8 * (k - 1))).toInt64.toUInt64 &&& Int64.toUInt64 63)).toInt64) dX3_append_33 rfl rfl ?_
          refine w_ldc2 (nx := 37) C 255 dX3_append_34 rfl wk_X3_31 ?_
          refine w_land (nx := 38) C ((c.toUInt64 >>> ((nI (8 * (k - 1))).toInt64.toUInt64 &&& Int64.toUInt64 63)).toInt64 &&& 255) dX3_append_37 rfl rfl ?_
          refine w_l2i (nx := 39) C (nI (byt (uL c) (k - 1))) dX3_append_38 rfl ((uL_and _).trans (by rw [uL_shr c (by omega), p256])) ?_
          refine w_i2c (nx := 40) C (nI (byt (uL c) (k - 1))) dX3_append_39 rfl (ic256 _ (byt_lt _ _)) ?_
          refine w_cast (nx := 41) (ws2 := [(p 0, .inr (3, [.ref (p 1), .ref (p 2), .int (nI z9), .int a])), (p 1, aC (kG κ) 60 (upd fg2 z9 (nI (byt (uL c) (k - 1)))))]) C (nI (byt (uL c) (k - 1))) 1 z9 dX3_append_40 rfl rfl (by decide) rfl (by omega) (vpn_char (byt_lt _ _)) rfl ?_
          refine w_aload_n (nx := 42) C 0 dX3_append_41 rfl rfl rfl ?_
          refine w_dup (nx := 43) C dX3_append_42 rfl rfl ?_
          refine w_get (nx := 46) C fc3 (.int (nI z9)) 0 2 dX3_append_43 rfl wl_X3_24 rfl (by decide) rfl rfl ?_
          refine w_iconst (nx := 47) C (nI 1) dX3_append_46 rfl (by decide) ?_
          refine w_iadd (nx := 48) C (nI (z9 + 1)) dX3_append_47 rfl (nI_add _ _) ?_
          refine w_put (nx := 51) (ws2 := [(p 0, .inr (3, [.ref (p 1), .ref (p 2), .int (nI (z9 + 1)), .int a])), (p 1, aC (kG κ) 60 (upd fg2 z9 (nI (byt (uL c) (k - 1)))))]) C fc3 0 2 dX3_append_48 rfl wl_X3_24 rfl (by decide) rfl rfl rfl (Nat.le_of_ble_eq_true rfl) rfl ?_
          refine w_iinc (nx := 54) (lo2 := [(4, .int (nI (k - 1) - nI 1)), (0, .ref (p 0)), (1, .long c), (3, .int (nI m))]) C (nI (k - 1) - nI 1) 3 dX3_append_51 rfl rfl (dec_sub _) (by decide) rfl ?_
          refine w_goto (nx := 5) C dX3_append_54 rfl ?_
          refine ww_lo [1, 2, 3, 0] (lo' := [(0, .ref (p 0)), (1, .long c), (3, .int (nI m)), (4, .int (nI (k - 1) - nI 1))]) rfl ?_
          exact ih9_5 (k - 1) (z9 + 1) (upd fg2 z9 (nI (byt (uL c) (k - 1)))) (by first | assumption | omega) (by first | assumption | omega) (fun i hi => (upd_n (by omega)).trans (h1 i hi)) (fun i a b => (Nat.lt_or_ge i z9).elim (fun z => (upd_n (by omega)).trans (h2 i a z)) (fun z => (upd_e (by omega)).trans (congrArg (fun z => nI (byt (uL c) z)) (by omega)))) (by omega)
  refine ww_lo [1, 2, 3, 0] (lo' := [(0, .ref (p 0)), (1, .long c), (3, .int (nI m)), (4, .int (nI m - nI 1))]) rfl ?_
  exact LP_1 _ m P.1 fg (by first | assumption | omega) (by first | assumption | omega) (fun _ _ => rfl) (fun i a b => absurd b (by omega)) (Nat.lt_succ_self _)
set_option maxHeartbeats 4000000 in
set_option maxRecDepth 100000 in
theorem c_X3_statements (l : Launch) (G : GG) (p : Nat → Nat) (z : Int32) (a : Int32) (lq : SQ) (fp : Nat → Int32)  : MT l G yX3_statements cX3_statements 1 (some .int) 2 0 0 [.ref (p 0)] [(p 0, .inr (3, [.ref (p 1), .ref (p 2), .int z, .int a])), (p 2, .inr (4, [.int (nI 13), .int (nI 4), .ref (p 3), .int (nI lq.1)])), (p 3, aI G 52 fp)] (fun v9 ws9 => v9 = some (.int (nI lq.1)) ∧ ws9 = [(p 0, .inr (3, [.ref (p 1), .ref (p 2), .int z, .int a])), (p 2, .inr (4, [.int (nI 13), .int (nI 4), .ref (p 3), .int (nI lq.1)])), (p 3, aI G 52 fp)]) := by
  refine MT.of RX3 [(0, .ref (p 0))] (by decide +kernel) rfl rfl (Nat.le_of_ble_eq_true rfl) (fun κ C E hl9 hG9 hnm9 => ?_)
  subst hl9; subst hG9
  refine w_aload_n (nx := 1) C 0 dX3_statements_0 rfl rfl rfl ?_
  refine w_get (nx := 4) C fc3 (.ref (p 2)) 0 1 dX3_statements_1 rfl wl_X3_20 rfl (by decide) rfl rfl ?_
  refine w_callV (nx := 7) (wr := [(p 0, .inr (3, [.ref (p 1), .ref (p 2), .int z, .int a]))]) (rest := []) C mi_X4_size (c_X4_size _ _ (p 2) (p 3) 13 4 lq.1 52 fp) 0 dX3_statements_4 rfl wl_X3_33 rfl rfl rfl (pm_sel [1, 2, 0] 3 (by decide +kernel) rfl rfl) rfl rfl (Nat.le_of_ble_eq_true rfl) (Nat.le_of_ble_eq_true rfl) (Nat.le_of_ble_eq_true rfl) (Nat.zero_le _) (Nat.zero_le _) (fun v9 w9 R_1 => ?_)
  obtain ⟨rfl, rfl⟩ := R_1
  show WW κ 0 0 [(p 2, .inr (4, [.int (nI 13), .int (nI 4), .ref (p 3), .int (nI lq.1)])), (p 3, aI (kG κ) 52 fp), (p 0, .inr (3, [.ref (p 1), .ref (p 2), .int z, .int a]))] 7 [(0, .ref (p 0))] [.int (nI lq.1)]
  refine ww_sel (l := [(p 0, .inr (3, [.ref (p 1), .ref (p 2), .int z, .int a])), (p 2, .inr (4, [.int (nI 13), .int (nI 4), .ref (p 3), .int (nI lq.1)])), (p 3, aI (kG κ) 52 fp)]) (pm_sel [2, 0, 1] 3 (by decide +kernel) rfl rfl) ?_
  exact w_iret (ty := .int) C E dX3_statements_7 rfl rfl (Nat.le_refl _) (Nat.le_refl _) ⟨rfl, rfl⟩
set_option maxHeartbeats 4000000 in
set_option maxRecDepth 100000 in
theorem c_X3_get_0 (l : Launch) (G : GG) (p : Nat → Nat) (z : Int32) (a : Int32) (lq : SQ) (fp : Nat → Int32) (j : Nat) (hQ : rQ fp lq) (hl : lq.1 ≤ 13) (hj : j < lq.1) : MT l G yX3_get cX3_get 3 (some .int) 2 0 0 [.ref (p 0), .int (nI j), .int (nI 0)] [(p 0, .inr (3, [.ref (p 1), .ref (p 2), .int z, .int a])), (p 2, .inr (4, [.int (nI 13), .int (nI 4), .ref (p 3), .int (nI lq.1)])), (p 3, aI G 52 fp)] (fun v9 ws9 => v9 = some (.int (nI ((lq.2 j).1))) ∧ ws9 = [(p 0, .inr (3, [.ref (p 1), .ref (p 2), .int z, .int a])), (p 2, .inr (4, [.int (nI 13), .int (nI 4), .ref (p 3), .int (nI lq.1)])), (p 3, aI G 52 fp)]) := by
  refine MT.of RX3 [(0, .ref (p 0)), (1, .int (nI j)), (2, .int (nI 0))] (by decide +kernel) rfl rfl (Nat.le_of_ble_eq_true rfl) (fun κ C E hl9 hG9 hnm9 => ?_)
  subst hl9; subst hG9
  refine w_aload_n (nx := 1) C 0 dX3_get_0 rfl rfl rfl ?_
  refine w_get (nx := 4) C fc3 (.ref (p 2)) 0 1 dX3_get_1 rfl wl_X3_20 rfl (by decide) rfl rfl ?_
  refine w_iload_n (nx := 5) C 1 dX3_get_4 rfl rfl rfl ?_
  refine w_iload_n (nx := 6) C 2 dX3_get_5 rfl rfl rfl ?_
  refine w_callV (nx := 9) (wr := [(p 0, .inr (3, [.ref (p 1), .ref (p 2), .int z, .int a]))]) (rest := []) C mi_X4_get (c_X4_get_n _ _ (p 2) (p 3) 13 4 lq.1 52 fp j 0 ((lq.2 j).1) (by first | assumption | omega) (by first | assumption | omega) (by first | assumption | omega) (by first | assumption | omega) (by first | assumption | omega) (by first | assumption | omega) (by first | assumption | omega) ((hQ j hj).1.1)) 0 dX3_get_6 rfl wl_X3_37 rfl rfl rfl (pm_sel [1, 2, 0] 3 (by decide +kernel) rfl rfl) rfl rfl (Nat.le_of_ble_eq_true rfl) (Nat.le_of_ble_eq_true rfl) (Nat.le_of_ble_eq_true rfl) (Nat.zero_le _) (Nat.zero_le _) (fun v9 w9 R_1 => ?_)
  obtain ⟨rfl, rfl⟩ := R_1
  show WW κ 0 0 [(p 2, .inr (4, [.int (nI 13), .int (nI 4), .ref (p 3), .int (nI lq.1)])), (p 3, aI (kG κ) 52 fp), (p 0, .inr (3, [.ref (p 1), .ref (p 2), .int z, .int a]))] 9 [(0, .ref (p 0)), (1, .int (nI j)), (2, .int (nI 0))] [.int (nI ((lq.2 j).1))]
  refine ww_sel (l := [(p 0, .inr (3, [.ref (p 1), .ref (p 2), .int z, .int a])), (p 2, .inr (4, [.int (nI 13), .int (nI 4), .ref (p 3), .int (nI lq.1)])), (p 3, aI (kG κ) 52 fp)]) (pm_sel [2, 0, 1] 3 (by decide +kernel) rfl rfl) ?_
  exact w_iret (ty := .int) C E dX3_get_9 rfl rfl (Nat.le_refl _) (Nat.le_refl _) ⟨rfl, rfl⟩
set_option maxHeartbeats 4000000 in
set_option maxRecDepth 100000 in
theorem c_X3_get_1 (l : Launch) (G : GG) (p : Nat → Nat) (z : Int32) (a : Int32) (lq : SQ) (fp : Nat → Int32) (j : Nat) (hQ : rQ fp lq) (hl : lq.1 ≤ 13) (hj : j < lq.1) : MT l G yX3_get cX3_get 3 (some .int) 2 0 0 [.ref (p 0), .int (nI j), .int (nI 1)] [(p 0, .inr (3, [.ref (p 1), .ref (p 2), .int z, .int a])), (p 2, .inr (4, [.int (nI 13), .int (nI 4), .ref (p 3), .int (nI lq.1)])), (p 3, aI G 52 fp)] (fun v9 ws9 => v9 = some (.int (nI ((lq.2 j).2.1))) ∧ ws9 = [(p 0, .inr (3, [.ref (p 1), .ref (p 2), .int z, .int a])), (p 2, .inr (4, [.int (nI 13), .int (nI 4), .ref (p 3), .int (nI lq.1)])), (p 3, aI G 52 fp)]) := by
  refine MT.of RX3 [(0, .ref (p 0)), (1, .int (nI j)), (2, .int (nI 1))] (by decide +kernel) rfl rfl (Nat.le_of_ble_eq_true rfl) (fun κ C E hl9 hG9 hnm9 => ?_)
  subst hl9; subst hG9
  refine w_aload_n (nx := 1) C 0 dX3_get_0 rfl rfl rfl ?_
  refine w_get (nx := 4) C fc3 (.ref (p 2)) 0 1 dX3_get_1 rfl wl_X3_20 rfl (by decide) rfl rfl ?_
  refine w_iload_n (nx := 5) C 1 dX3_get_4 rfl rfl rfl ?_
  refine w_iload_n (nx := 6) C 2 dX3_get_5 rfl rfl rfl ?_
  refine w_callV (nx := 9) (wr := [(p 0, .inr (3, [.ref (p 1), .ref (p 2), .int z, .int a]))]) (rest := []) C mi_X4_get (c_X4_get_n _ _ (p 2) (p 3) 13 4 lq.1 52 fp j 1 ((lq.2 j).2.1) (by first | assumption | omega) (by first | assumption | omega) (by first | assumption | omega) (by first | assumption | omega) (by first | assumption | omega) (by first | assumption | omega) (by first | assumption | omega) ((hQ j hj).1.2.1)) 0 dX3_get_6 rfl wl_X3_37 rfl rfl rfl (pm_sel [1, 2, 0] 3 (by decide +kernel) rfl rfl) rfl rfl (Nat.le_of_ble_eq_true rfl) (Nat.le_of_ble_eq_true rfl) (Nat.le_of_ble_eq_true rfl) (Nat.zero_le _) (Nat.zero_le _) (fun v9 w9 R_1 => ?_)
  obtain ⟨rfl, rfl⟩ := R_1
  show WW κ 0 0 [(p 2, .inr (4, [.int (nI 13), .int (nI 4), .ref (p 3), .int (nI lq.1)])), (p 3, aI (kG κ) 52 fp), (p 0, .inr (3, [.ref (p 1), .ref (p 2), .int z, .int a]))] 9 [(0, .ref (p 0)), (1, .int (nI j)), (2, .int (nI 1))] [.int (nI ((lq.2 j).2.1))]
  refine ww_sel (l := [(p 0, .inr (3, [.ref (p 1), .ref (p 2), .int z, .int a])), (p 2, .inr (4, [.int (nI 13), .int (nI 4), .ref (p 3), .int (nI lq.1)])), (p 3, aI (kG κ) 52 fp)]) (pm_sel [2, 0, 1] 3 (by decide +kernel) rfl rfl) ?_
  exact w_iret (ty := .int) C E dX3_get_9 rfl rfl (Nat.le_refl _) (Nat.le_refl _) ⟨rfl, rfl⟩
set_option maxHeartbeats 4000000 in
set_option maxRecDepth 100000 in
theorem c_X3_get_2 (l : Launch) (G : GG) (p : Nat → Nat) (z : Int32) (a : Int32) (lq : SQ) (fp : Nat → Int32) (j : Nat) (hQ : rQ fp lq) (hl : lq.1 ≤ 13) (hj : j < lq.1) : MT l G yX3_get cX3_get 3 (some .int) 2 0 0 [.ref (p 0), .int (nI j), .int (nI 2)] [(p 0, .inr (3, [.ref (p 1), .ref (p 2), .int z, .int a])), (p 2, .inr (4, [.int (nI 13), .int (nI 4), .ref (p 3), .int (nI lq.1)])), (p 3, aI G 52 fp)] (fun v9 ws9 => v9 = some (.int (nI ((lq.2 j).2.2.1))) ∧ ws9 = [(p 0, .inr (3, [.ref (p 1), .ref (p 2), .int z, .int a])), (p 2, .inr (4, [.int (nI 13), .int (nI 4), .ref (p 3), .int (nI lq.1)])), (p 3, aI G 52 fp)]) := by
  refine MT.of RX3 [(0, .ref (p 0)), (1, .int (nI j)), (2, .int (nI 2))] (by decide +kernel) rfl rfl (Nat.le_of_ble_eq_true rfl) (fun κ C E hl9 hG9 hnm9 => ?_)
  subst hl9; subst hG9
  refine w_aload_n (nx := 1) C 0 dX3_get_0 rfl rfl rfl ?_
  refine w_get (nx := 4) C fc3 (.ref (p 2)) 0 1 dX3_get_1 rfl wl_X3_20 rfl (by decide) rfl rfl ?_
  refine w_iload_n (nx := 5) C 1 dX3_get_4 rfl rfl rfl ?_
  refine w_iload_n (nx := 6) C 2 dX3_get_5 rfl rfl rfl ?_
  refine w_callV (nx := 9) (wr := [(p 0, .inr (3, [.ref (p 1), .ref (p 2), .int z, .int a]))]) (rest := []) C mi_X4_get (c_X4_get_n _ _ (p 2) (p 3) 13 4 lq.1 52 fp j 2 ((lq.2 j).2.2.1) (by first | assumption | omega) (by first | assumption | omega) (by first | assumption | omega) (by first | assumption | omega) (by first | assumption | omega) (by first | assumption | omega) (by first | assumption | omega) ((hQ j hj).1.2.2.1)) 0 dX3_get_6 rfl wl_X3_37 rfl rfl rfl (pm_sel [1, 2, 0] 3 (by decide +kernel) rfl rfl) rfl rfl (Nat.le_of_ble_eq_true rfl) (Nat.le_of_ble_eq_true rfl) (Nat.le_of_ble_eq_true rfl) (Nat.zero_le _) (Nat.zero_le _) (fun v9 w9 R_1 => ?_)
  obtain ⟨rfl, rfl⟩ := R_1
  show WW κ 0 0 [(p 2, .inr (4, [.int (nI 13), .int (nI 4), .ref (p 3), .int (nI lq.1)])), (p 3, aI (kG κ) 52 fp), (p 0, .inr (3, [.ref (p 1), .ref (p 2), .int z, .int a]))] 9 [(0, .ref (p 0)), (1, .int (nI j)), (2, .int (nI 2))] [.int (nI ((lq.2 j).2.2.1))]
  refine ww_sel (l := [(p 0, .inr (3, [.ref (p 1), .ref (p 2), .int z, .int a])), (p 2, .inr (4, [.int (nI 13), .int (nI 4), .ref (p 3), .int (nI lq.1)])), (p 3, aI (kG κ) 52 fp)]) (pm_sel [2, 0, 1] 3 (by decide +kernel) rfl rfl) ?_
  exact w_iret (ty := .int) C E dX3_get_9 rfl rfl (Nat.le_refl _) (Nat.le_refl _) ⟨rfl, rfl⟩
set_option maxHeartbeats 4000000 in
set_option maxRecDepth 100000 in
theorem c_X3_get_3 (l : Launch) (G : GG) (p : Nat → Nat) (z : Int32) (a : Int32) (lq : SQ) (fp : Nat → Int32) (j : Nat) (hQ : rQ fp lq) (hl : lq.1 ≤ 13) (hj : j < lq.1) : MT l G yX3_get cX3_get 3 (some .int) 2 0 0 [.ref (p 0), .int (nI j), .int (nI 3)] [(p 0, .inr (3, [.ref (p 1), .ref (p 2), .int z, .int a])), (p 2, .inr (4, [.int (nI 13), .int (nI 4), .ref (p 3), .int (nI lq.1)])), (p 3, aI G 52 fp)] (fun v9 ws9 => v9 = some (.int (nI ((lq.2 j).2.2.2))) ∧ ws9 = [(p 0, .inr (3, [.ref (p 1), .ref (p 2), .int z, .int a])), (p 2, .inr (4, [.int (nI 13), .int (nI 4), .ref (p 3), .int (nI lq.1)])), (p 3, aI G 52 fp)]) := by
  refine MT.of RX3 [(0, .ref (p 0)), (1, .int (nI j)), (2, .int (nI 3))] (by decide +kernel) rfl rfl (Nat.le_of_ble_eq_true rfl) (fun κ C E hl9 hG9 hnm9 => ?_)
  subst hl9; subst hG9
  refine w_aload_n (nx := 1) C 0 dX3_get_0 rfl rfl rfl ?_
  refine w_get (nx := 4) C fc3 (.ref (p 2)) 0 1 dX3_get_1 rfl wl_X3_20 rfl (by decide) rfl rfl ?_
  refine w_iload_n (nx := 5) C 1 dX3_get_4 rfl rfl rfl ?_
  refine w_iload_n (nx := 6) C 2 dX3_get_5 rfl rfl rfl ?_
  refine w_callV (nx := 9) (wr := [(p 0, .inr (3, [.ref (p 1), .ref (p 2), .int z, .int a]))]) (rest := []) C mi_X4_get (c_X4_get_n _ _ (p 2) (p 3) 13 4 lq.1 52 fp j 3 ((lq.2 j).2.2.2) (by first | assumption | omega) (by first | assumption | omega) (by first | assumption | omega) (by first | assumption | omega) (by first | assumption | omega) (by first | assumption | omega) (by first | assumption | omega) ((hQ j hj).1.2.2.2)) 0 dX3_get_6 rfl wl_X3_37 rfl rfl rfl (pm_sel [1, 2, 0] 3 (by decide +kernel) rfl rfl) rfl rfl (Nat.le_of_ble_eq_true rfl) (Nat.le_of_ble_eq_true rfl) (Nat.le_of_ble_eq_true rfl) (Nat.zero_le _) (Nat.zero_le _) (fun v9 w9 R_1 => ?_)
  obtain ⟨rfl, rfl⟩ := R_1
  show WW κ 0 0 [(p 2, .inr (4, [.int (nI 13), .int (nI 4), .ref (p 3), .int (nI lq.1)])), (p 3, aI (kG κ) 52 fp), (p 0, .inr (3, [.ref (p 1), .ref (p 2), .int z, .int a]))] 9 [(0, .ref (p 0)), (1, .int (nI j)), (2, .int (nI 3))] [.int (nI ((lq.2 j).2.2.2))]
  refine ww_sel (l := [(p 0, .inr (3, [.ref (p 1), .ref (p 2), .int z, .int a])), (p 2, .inr (4, [.int (nI 13), .int (nI 4), .ref (p 3), .int (nI lq.1)])), (p 3, aI (kG κ) 52 fp)]) (pm_sel [2, 0, 1] 3 (by decide +kernel) rfl rfl) ?_
  exact w_iret (ty := .int) C E dX3_get_9 rfl rfl (Nat.le_refl _) (Nat.le_refl _) ⟨rfl, rfl⟩
set_option maxHeartbeats 4000000 in
set_option maxRecDepth 100000 in
theorem c_X3_next (l : Launch) (G : GG) (p : Nat → Nat) (P : PD) (fg : Nat → Int32) (a : Nat) (hP : rP fg P) (hw : wfP P) (ha : a ≤ 60) : MT l G yX3_next cX3_next 1 (some .char) 2 0 0 [.ref (p 0)] [(p 0, .inr (3, [.ref (p 1), .ref (p 2), .int (nI P.1), .int (nI a)])), (p 1, aC G 60 fg)] (fun v9 ws9 => ∃ (x : Nat), v9 = some (.int (nI x)) ∧ ws9 = [(p 0, .inr (3, [.ref (p 1), .ref (p 2), .int (nI P.1), .int (nI a)])), (p 1, aC G 60 fg)] ∧ ((x = sg P a ∧ 33 ≤ x ∧ x ≤ 126) ∨ (x = 32 ∧ sg P a = 0))) := by
  refine MT.of RX3 [(0, .ref (p 0))] (by decide +kernel) rfl rfl (Nat.le_of_ble_eq_true rfl) (fun κ C E hl9 hG9 hnm9 => ?_)
  subst hl9; subst hG9
  have hz9 := hw.1
  refine w_aload_n (nx := 1) C 0 dX3_next_0 rfl rfl rfl ?_
  refine w_get (nx := 4) C fc3 (.int (nI a)) 0 3 dX3_next_1 rfl wl_X3_28 rfl (by decide) rfl rfl ?_
  refine w_aload_n (nx := 5) C 0 dX3_next_4 rfl rfl rfl ?_
  refine w_get (nx := 8) C fc3 (.int (nI P.1)) 0 2 dX3_next_5 rfl wl_X3_24 rfl (by decide) rfl rfl ?_
  refine n_icmp_ge (tg := 35) (nx := 11) C dX3_next_8 rfl rfl (by omega) (by omega) (fun h_1 => ?_) (fun h_1 => ?_)
  · have hs9 : sg P a = 0 := sg_out (by omega)
    refine w_bipush (nx := 37) C (nI 32) dX3_next_35 rfl (by decide) ?_
    exact w_iret (ty := .char) C E dX3_next_37 rfl (nar_char (by omega)) (Nat.le_refl _) (Nat.le_refl _) ⟨32, rfl, rfl, (by omega)⟩
  · have hb9 := hw.2 a (by omega)
    have hs9 : sg P a = P.2 a := sg_in (by omega)
    refine w_aload_n (nx := 12) C 0 dX3_next_11 rfl rfl rfl ?_
    refine w_get (nx := 15) C fc3 (.int (nI a)) 0 3 dX3_next_12 rfl wl_X3_28 rfl (by decide) rfl rfl ?_
    refine w_bipush (nx := 17) C (nI 60) dX3_next_15 rfl (by decide) ?_
    refine w_callN (nx := 20) (wr := [(p 0, .inr (3, [.ref (p 1), .ref (p 2), .int (nI P.1), .int (nI a)])), (p 1, aC (kG κ) 60 fg)]) (rest := []) C ms_X8_isWithin (c_X8_isWithin_n _ _ a 60 (by first | assumption | omega) (by first | assumption | omega)) dX3_next_17 rfl wx_X3_66 (pm_sel [0, 1] 2 (by decide +kernel) rfl rfl) rfl rfl (Nat.le_of_ble_eq_true rfl) (Nat.le_of_ble_eq_true rfl) (Nat.le_of_ble_eq_true rfl) (Nat.zero_le _) (Nat.zero_le _) (fun v9 w9 R_2 => ?_)
    obtain ⟨rfl, rfl⟩ := R_2
    show WW κ 0 0 [(p 0, .inr (3, [.ref (p 1), .ref (p 2), .int (nI P.1), .int (nI a)])), (p 1, aC (kG κ) 60 fg)] 20 [(0, .ref (p 0))] [.int (bC (a < 60))]
    refine b_if_eq (tg := 35) (nx := 23) C dX3_next_20 rfl rfl (fun h_3 => ?_) (fun h_3 => ?_)
    · exact absurd (by omega) h_3
    · refine w_aload_n (nx := 24) C 0 dX3_next_23 rfl rfl rfl ?_
      refine w_get (nx := 27) C fc3 (.ref (p 1)) 0 0 dX3_next_24 rfl wl_X3_9 rfl (by decide) rfl rfl ?_
      refine w_aload_n (nx := 28) C 0 dX3_next_27 rfl rfl rfl ?_
      refine w_get (nx := 31) C fc3 (.int (nI a)) 0 3 dX3_next_28 rfl wl_X3_28 rfl (by decide) rfl rfl ?_
      refine w_cald (nx := 32) C (nI (P.2 a)) 1 a dX3_next_31 rfl rfl (by decide) rfl (by omega) (hP a (by omega)) ?_
      refine w_goto (nx := 37) C dX3_next_32 rfl ?_
      exact w_iret (ty := .char) C E dX3_next_37 rfl (nar_char (by omega)) (Nat.le_refl _) (Nat.le_refl _) ⟨(P.2 a), rfl, rfl, (by omega)⟩
set_option maxHeartbeats 4000000 in
set_option maxRecDepth 100000 in
theorem c_X3_accepts (l : Launch) (G : GG) (p : Nat → Nat) (P : PD) (fg : Nat → Int32) (a : Nat) (s : Nat) (hP : rP fg P) (hw : wfP P) (ha : a ≤ 60) (hs : 33 ≤ s) (hs2 : s ≤ 126) : MT l G yX3_accepts cX3_accepts 2 (some .boolean) 3 0 0 [.ref (p 0), .int (nI s)] [(p 0, .inr (3, [.ref (p 1), .ref (p 2), .int (nI P.1), .int (nI a)])), (p 1, aC G 60 fg)] (fun v9 ws9 => (v9 = some (.int (nI 1)) ∧ ws9 = [(p 0, .inr (3, [.ref (p 1), .ref (p 2), .int (nI P.1), .int (nI (a + 1))])), (p 1, aC G 60 fg)] ∧ sg P a = s ∧ a + 1 ≤ P.1) ∨ (v9 = some (.int (nI 0)) ∧ ws9 = [(p 0, .inr (3, [.ref (p 1), .ref (p 2), .int (nI P.1), .int (nI a)])), (p 1, aC G 60 fg)] ∧ ¬ sg P a = s)) := by
  refine MT.of RX3 [(0, .ref (p 0)), (1, .int (nI s))] (by decide +kernel) rfl rfl (Nat.le_of_ble_eq_true rfl) (fun κ C E hl9 hG9 hnm9 => ?_)
  subst hl9; subst hG9
  refine w_aload_n (nx := 1) C 0 dX3_accepts_0 rfl rfl rfl ?_
  refine w_callV (nx := 4) (wr := []) (rest := []) C mi_X3_next (c_X3_next _ _ p P fg a (by first | assumption | omega) (by first | assumption | omega) (by first | assumption | omega)) 0 dX3_accepts_1 rfl wl_X3_70 rfl rfl rfl (pm_sel [0, 1] 2 (by decide +kernel) rfl rfl) rfl rfl (Nat.le_of_ble_eq_true rfl) (Nat.le_of_ble_eq_true rfl) (Nat.le_of_ble_eq_true rfl) (Nat.zero_le _) (Nat.zero_le _) (fun v9 w9 R_1 => ?_)
  obtain ⟨x_2, rfl, rfl, hx_3⟩ := R_1
  show WW κ 0 0 [(p 0, .inr (3, [.ref (p 1), .ref (p 2), .int (nI P.1), .int (nI a)])), (p 1, aC (kG κ) 60 fg)] 4 [(0, .ref (p 0)), (1, .int (nI s))] [.int (nI x_2)]
  have hx9 := hx_3
  refine w_iload_n (nx := 5) C 1 dX3_accepts_4 rfl rfl rfl ?_
  refine n_icmp_eq (tg := 10) (nx := 8) C dX3_accepts_5 rfl rfl (by omega) (by omega) (fun h_4 => ?_) (fun h_4 => ?_)
  · have hl9 : a < P.1 := sg_lt (by omega)
    refine w_aload_n (nx := 11) C 0 dX3_accepts_10 rfl rfl rfl ?_
    refine w_dup (nx := 12) C dX3_accepts_11 rfl rfl ?_
    refine w_get (nx := 15) C fc3 (.int (nI a)) 0 3 dX3_accepts_12 rfl wl_X3_28 rfl (by decide) rfl rfl ?_
    refine w_iconst (nx := 16) C (nI 1) dX3_accepts_15 rfl (by decide) ?_
    refine w_iadd (nx := 17) C (nI (a + 1)) dX3_accepts_16 rfl (nI_add _ _) ?_
    refine w_put (nx := 20) (ws2 := [(p 0, .inr (3, [.ref (p 1), .ref (p 2), .int (nI P.1), .int (nI (a + 1))])), (p 1, aC (kG κ) 60 fg)]) C fc3 0 3 dX3_accepts_17 rfl wl_X3_28 rfl (by decide) rfl rfl rfl (Nat.le_of_ble_eq_true rfl) rfl ?_
    refine w_iconst (nx := 21) C (nI 1) dX3_accepts_20 rfl (by decide) ?_
    exact w_iret (ty := .boolean) C E dX3_accepts_21 rfl rfl (Nat.le_refl _) (Nat.le_refl _) (Or.inl ⟨rfl, rfl, (by first | assumption | rfl | omega), (by first | assumption | rfl | omega)⟩)
  · refine w_iconst (nx := 9) C (nI 0) dX3_accepts_8 rfl (by decide) ?_
    exact w_iret (ty := .boolean) C E dX3_accepts_9 rfl rfl (Nat.le_refl _) (Nat.le_refl _) (Or.inr (⟨rfl, rfl, (by first | assumption | rfl | omega)⟩))
set_option maxHeartbeats 4000000 in
set_option maxRecDepth 100000 in
theorem c_X3_digit (l : Launch) (G : GG) (p : Nat → Nat) (P : PD) (fg : Nat → Int32) (a : Nat) (hP : rP fg P) (hw : wfP P) (ha : a ≤ 60) : MT l G yX3_digit cX3_digit 2 (some .int) 3 0 0 [.ref (p 0)] [(p 0, .inr (3, [.ref (p 1), .ref (p 2), .int (nI P.1), .int (nI a)])), (p 1, aC G 60 fg)] (fun v9 ws9 => (v9 = some (.int (nI (sg P a - 48))) ∧ ws9 = [(p 0, .inr (3, [.ref (p 1), .ref (p 2), .int (nI P.1), .int (nI a)])), (p 1, aC G 60 fg)] ∧ 48 ≤ sg P a ∧ sg P a ≤ 57) ∨ (v9 = some (.int (-1)) ∧ ws9 = [(p 0, .inr (3, [.ref (p 1), .ref (p 2), .int (nI P.1), .int (nI a)])), (p 1, aC G 60 fg)] ∧ (¬ (48 ≤ sg P a ∧ sg P a ≤ 57)))) := by
  refine MT.of RX3 [(0, .ref (p 0))] (by decide +kernel) rfl rfl (Nat.le_of_ble_eq_true rfl) (fun κ C E hl9 hG9 hnm9 => ?_)
  subst hl9; subst hG9
  refine w_aload_n (nx := 1) C 0 dX3_digit_0 rfl rfl rfl ?_
  refine w_callV (nx := 4) (wr := []) (rest := []) C mi_X3_next (c_X3_next _ _ p P fg a (by first | assumption | omega) (by first | assumption | omega) (by first | assumption | omega)) 0 dX3_digit_1 rfl wl_X3_70 rfl rfl rfl (pm_sel [0, 1] 2 (by decide +kernel) rfl rfl) rfl rfl (Nat.le_of_ble_eq_true rfl) (Nat.le_of_ble_eq_true rfl) (Nat.le_of_ble_eq_true rfl) (Nat.zero_le _) (Nat.zero_le _) (fun v9 w9 R_1 => ?_)
  obtain ⟨x_2, rfl, rfl, hx_3⟩ := R_1
  show WW κ 0 0 [(p 0, .inr (3, [.ref (p 1), .ref (p 2), .int (nI P.1), .int (nI a)])), (p 1, aC (kG κ) 60 fg)] 4 [(0, .ref (p 0))] [.int (nI x_2)]
  have hx9 := hx_3
  refine w_istore_n (nx := 5) (lo2 := [(1, .int (nI x_2)), (0, .ref (p 0))]) C dX3_digit_4 rfl rfl (by decide) rfl ?_
  refine w_iload_n (nx := 6) C 0 dX3_digit_5 rfl rfl rfl ?_
  refine w_bipush (nx := 8) C (nI 48) dX3_digit_6 rfl (by decide) ?_
  refine n_icmp_lt (tg := 24) (nx := 11) C dX3_digit_8 rfl rfl (by omega) (by omega) (fun h_4 => ?_) (fun h_4 => ?_)
  · refine w_iconst (nx := 25) C (-1) dX3_digit_24 rfl (by decide) ?_
    exact w_iret (ty := .int) C E dX3_digit_25 rfl rfl (Nat.le_refl _) (Nat.le_refl _) (Or.inr (⟨rfl, rfl, (by first | assumption | rfl | omega)⟩))
  · refine w_iload_n (nx := 12) C 0 dX3_digit_11 rfl rfl rfl ?_
    refine w_bipush (nx := 14) C (nI 57) dX3_digit_12 rfl (by decide) ?_
    refine n_icmp_gt (tg := 24) (nx := 17) C dX3_digit_14 rfl rfl (by omega) (by omega) (fun h_5 => ?_) (fun h_5 => ?_)
    · refine w_iconst (nx := 25) C (-1) dX3_digit_24 rfl (by decide) ?_
      exact w_iret (ty := .int) C E dX3_digit_25 rfl rfl (Nat.le_refl _) (Nat.le_refl _) (Or.inr (⟨rfl, rfl, (by first | assumption | rfl | omega)⟩))
    · refine w_iload_n (nx := 18) C 0 dX3_digit_17 rfl rfl rfl ?_
      refine w_bipush (nx := 20) C (nI 48) dX3_digit_18 rfl (by decide) ?_
      refine w_isub (nx := 21) C (nI (x_2 - 48)) dX3_digit_20 rfl (pk_sub (by omega)) ?_
      refine w_goto (nx := 25) C dX3_digit_21 rfl ?_
      exact w_iret (ty := .int) C E dX3_digit_25 rfl rfl (Nat.le_refl _) (Nat.le_refl _) (Or.inl ⟨(congrArg (fun z => some (Value.int z)) (congrArg nI (by omega))), rfl, (by first | assumption | rfl | omega), (by first | assumption | rfl | omega)⟩)
set_option maxHeartbeats 4000000 in
set_option maxRecDepth 100000 in
theorem c_X3_readKind (l : Launch) (G : GG) (p : Nat → Nat) (P : PD) (fg : Nat → Int32) (a : Nat) (hP : rP fg P) (hw : wfP P) (ha : a ≤ 60) : MT l G yX3_readKind cX3_readKind 1 (some .int) 4 0 0 [.ref (p 0)] [(p 0, .inr (3, [.ref (p 1), .ref (p 2), .int (nI P.1), .int (nI a)])), (p 1, aC G 60 fg)] (fun v9 ws9 => (∃ (kd : Nat), v9 = some (.int (nI kd)) ∧ ws9 = [(p 0, .inr (3, [.ref (p 1), .ref (p 2), .int (nI P.1), .int (nI (a + 1))])), (p 1, aC G 60 fg)] ∧ ((kd = 0 ∧ sg P a = 108) ∨ (kd = 1 ∧ sg P a = 97) ∨ (kd = 2 ∧ sg P a = 100)) ∧ a + 1 ≤ P.1) ∨ (v9 = some (.int (-1)) ∧ ws9 = [(p 0, .inr (3, [.ref (p 1), .ref (p 2), .int (nI P.1), .int (nI a)])), (p 1, aC G 60 fg)] ∧ (¬ (sg P a = 108 ∨ sg P a = 97 ∨ sg P a = 100)))) := by
  refine MT.of RX3 [(0, .ref (p 0))] (by decide +kernel) rfl rfl (Nat.le_of_ble_eq_true rfl) (fun κ C E hl9 hG9 hnm9 => ?_)
  subst hl9; subst hG9
  refine w_aload_n (nx := 1) C 0 dX3_readKind_0 rfl rfl rfl ?_
  refine w_bipush (nx := 3) C (nI 108) dX3_readKind_1 rfl (by decide) ?_
  refine w_callV (nx := 6) (wr := []) (rest := []) C mi_X3_accepts (c_X3_accepts _ _ p P fg a 108 (by first | assumption | omega) (by first | assumption | omega) (by first | assumption | omega) (by first | assumption | omega) (by first | assumption | omega)) 0 dX3_readKind_3 rfl wl_X3_48 rfl rfl rfl (pm_sel [0, 1] 2 (by decide +kernel) rfl rfl) rfl rfl (Nat.le_of_ble_eq_true rfl) (Nat.le_of_ble_eq_true rfl) (Nat.le_of_ble_eq_true rfl) (Nat.zero_le _) (Nat.zero_le _) (fun v9 w9 R_1 => ?_)
  rcases R_1 with ⟨rfl, rfl, h1_2, h2_3⟩ | ⟨rfl, rfl, h1_4⟩
  · show WW κ 0 0 [(p 0, .inr (3, [.ref (p 1), .ref (p 2), .int (nI P.1), .int (nI (a + 1))])), (p 1, aC (kG κ) 60 fg)] 6 [(0, .ref (p 0))] [.int (nI 1)]
    refine w_if_eq (tg := 11) (nx := 9) C dX3_readKind_6 rfl rfl (fun q9 => absurd q9 (by decide)) (fun _ => ?_)
    refine w_iconst (nx := 10) C (nI 0) dX3_readKind_9 rfl (by decide) ?_
    exact w_iret (ty := .int) C E dX3_readKind_10 rfl rfl (Nat.le_refl _) (Nat.le_refl _) (Or.inl ⟨0, rfl, rfl, (by first | assumption | rfl | omega), (by first | assumption | rfl | omega)⟩)
  · show WW κ 0 0 [(p 0, .inr (3, [.ref (p 1), .ref (p 2), .int (nI P.1), .int (nI a)])), (p 1, aC (kG κ) 60 fg)] 6 [(0, .ref (p 0))] [.int (nI 0)]
    refine w_if_eq (tg := 11) (nx := 9) C dX3_readKind_6 rfl rfl (fun _ => ?_) (fun q9 => absurd (by decide) q9)
    refine w_aload_n (nx := 12) C 0 dX3_readKind_11 rfl rfl rfl ?_
    refine w_bipush (nx := 14) C (nI 97) dX3_readKind_12 rfl (by decide) ?_
    refine w_callV (nx := 17) (wr := []) (rest := []) C mi_X3_accepts (c_X3_accepts _ _ p P fg a 97 (by first | assumption | omega) (by first | assumption | omega) (by first | assumption | omega) (by first | assumption | omega) (by first | assumption | omega)) 0 dX3_readKind_14 rfl wl_X3_48 rfl rfl rfl (pm_sel [0, 1] 2 (by decide +kernel) rfl rfl) rfl rfl (Nat.le_of_ble_eq_true rfl) (Nat.le_of_ble_eq_true rfl) (Nat.le_of_ble_eq_true rfl) (Nat.zero_le _) (Nat.zero_le _) (fun v9 w9 R_7 => ?_)
    rcases R_7 with ⟨rfl, rfl, h1_8, h2_9⟩ | ⟨rfl, rfl, h1_10⟩
    · show WW κ 0 0 [(p 0, .inr (3, [.ref (p 1), .ref (p 2), .int (nI P.1), .int (nI (a + 1))])), (p 1, aC (kG κ) 60 fg)] 17 [(0, .ref (p 0))] [.int (nI 1)]
      refine w_if_eq (tg := 22) (nx := 20) C dX3_readKind_17 rfl rfl (fun q9 => absurd q9 (by decide)) (fun _ => ?_)
      refine w_iconst (nx := 21) C (nI 1) dX3_readKind_20 rfl (by decide) ?_
      exact w_iret (ty := .int) C E dX3_readKind_21 rfl rfl (Nat.le_refl _) (Nat.le_refl _) (Or.inl ⟨1, rfl, rfl, (by first | assumption | rfl | omega), (by first | assumption | rfl | omega)⟩)
    · show WW κ 0 0 [(p 0, .inr (3, [.ref (p 1), .ref (p 2), .int (nI P.1), .int (nI a)])), (p 1, aC (kG κ) 60 fg)] 17 [(0, .ref (p 0))] [.int (nI 0)]
      refine w_if_eq (tg := 22) (nx := 20) C dX3_readKind_17 rfl rfl (fun _ => ?_) (fun q9 => absurd (by decide) q9)
      refine w_aload_n (nx := 23) C 0 dX3_readKind_22 rfl rfl rfl ?_
      refine w_bipush (nx := 25) C (nI 100) dX3_readKind_23 rfl (by decide) ?_
      refine w_callV (nx := 28) (wr := []) (rest := []) C mi_X3_accepts (c_X3_accepts _ _ p P fg a 100 (by first | assumption | omega) (by first | assumption | omega) (by first | assumption | omega) (by first | assumption | omega) (by first | assumption | omega)) 0 dX3_readKind_25 rfl wl_X3_48 rfl rfl rfl (pm_sel [0, 1] 2 (by decide +kernel) rfl rfl) rfl rfl (Nat.le_of_ble_eq_true rfl) (Nat.le_of_ble_eq_true rfl) (Nat.le_of_ble_eq_true rfl) (Nat.zero_le _) (Nat.zero_le _) (fun v9 w9 R_13 => ?_)
      rcases R_13 with ⟨rfl, rfl, h1_14, h2_15⟩ | ⟨rfl, rfl, h1_16⟩
      · show WW κ 0 0 [(p 0, .inr (3, [.ref (p 1), .ref (p 2), .int (nI P.1), .int (nI (a + 1))])), (p 1, aC (kG κ) 60 fg)] 28 [(0, .ref (p 0))] [.int (nI 1)]
        refine w_if_eq (tg := 35) (nx := 31) C dX3_readKind_28 rfl rfl (fun q9 => absurd q9 (by decide)) (fun _ => ?_)
        refine w_iconst (nx := 32) C (nI 2) dX3_readKind_31 rfl (by decide) ?_
        refine w_goto (nx := 36) C dX3_readKind_32 rfl ?_
        exact w_iret (ty := .int) C E dX3_readKind_36 rfl rfl (Nat.le_refl _) (Nat.le_refl _) (Or.inl ⟨2, rfl, rfl, (by first | assumption | rfl | omega), (by first | assumption | rfl | omega)⟩)
      · show WW κ 0 0 [(p 0, .inr (3, [.ref (p 1), .ref (p 2), .int (nI P.1), .int (nI a)])), (p 1, aC (kG κ) 60 fg)] 28 [(0, .ref (p 0))] [.int (nI 0)]
        refine w_if_eq (tg := 35) (nx := 31) C dX3_readKind_28 rfl rfl (fun _ => ?_) (fun q9 => absurd (by decide) q9)
        refine w_iconst (nx := 36) C (-1) dX3_readKind_35 rfl (by decide) ?_
        exact w_iret (ty := .int) C E dX3_readKind_36 rfl rfl (Nat.le_refl _) (Nat.le_refl _) (Or.inr (⟨rfl, rfl, (by first | assumption | rfl | omega)⟩))
set_option maxHeartbeats 4000000 in
set_option maxRecDepth 100000 in
theorem c_X3_readNumber_4 (l : Launch) (G : GG) (p : Nat → Nat) (P : PD) (fg : Nat → Int32) (a : Nat) (hP : rP fg P) (hw : wfP P) (ha : a ≤ 60) : MT l G yX3_readNumber cX3_readNumber 3 (some .int) 4 0 0 [.ref (p 0), .int (nI 4)] [(p 0, .inr (3, [.ref (p 1), .ref (p 2), .int (nI P.1), .int (nI a)])), (p 1, aC G 60 fg)] (fun v9 ws9 => (∃ (v : Nat) (a2 : Nat), v9 = some (.int (nI v)) ∧ ws9 = [(p 0, .inr (3, [.ref (p 1), .ref (p 2), .int (nI P.1), .int (nI a2)])), (p 1, aC G 60 fg)] ∧ nmP P 4 0 a = some (v, a2) ∧ v < 4 ∧ a2 ≤ 60) ∨ (v9 = some (.int (-1)) ∧ ws9 = [(p 0, .inr (3, [.ref (p 1), .ref (p 2), .int (nI P.1), .int (nI a)])), (p 1, aC G 60 fg)] ∧ nmP P 4 0 a = none)) := by
  refine MT.of RX3 [(0, .ref (p 0)), (1, .int (nI 4))] (by decide +kernel) rfl rfl (Nat.le_of_ble_eq_true rfl) (fun κ C E hl9 hG9 hnm9 => ?_)
  subst hl9; subst hG9
  have hz9 := hw.1
  refine w_aload_n (nx := 1) C 0 dX3_readNumber_0 rfl rfl rfl ?_
  refine w_callV (nx := 4) (wr := []) (rest := []) C mi_X3_digit (c_X3_digit _ _ p P fg a (by first | assumption | omega) (by first | assumption | omega) (by first | assumption | omega)) 0 dX3_readNumber_1 rfl wl_X3_63 rfl rfl rfl (pm_sel [0, 1] 2 (by decide +kernel) rfl rfl) rfl rfl (Nat.le_of_ble_eq_true rfl) (Nat.le_of_ble_eq_true rfl) (Nat.le_of_ble_eq_true rfl) (Nat.zero_le _) (Nat.zero_le _) (fun v9 w9 R_1 => ?_)
  rcases R_1 with ⟨rfl, rfl, h1_2, h2_3⟩ | ⟨rfl, rfl, h1_4⟩
  · show WW κ 0 0 [(p 0, .inr (3, [.ref (p 1), .ref (p 2), .int (nI P.1), .int (nI a)])), (p 1, aC (kG κ) 60 fg)] 4 [(0, .ref (p 0)), (1, .int (nI 4))] [.int (nI (sg P a - 48))]
    refine w_istore_n (nx := 5) (lo2 := [(2, .int (nI (sg P a - 48))), (0, .ref (p 0)), (1, .int (nI 4))]) C dX3_readNumber_4 rfl rfl (by decide) rfl ?_
    refine w_iload_n (nx := 6) C 0 dX3_readNumber_5 rfl rfl rfl ?_
    refine w_iload_n (nx := 7) C 2 dX3_readNumber_6 rfl rfl rfl ?_
    refine w_callN (nx := 10) (wr := [(p 0, .inr (3, [.ref (p 1), .ref (p 2), .int (nI P.1), .int (nI a)])), (p 1, aC (kG κ) 60 fg)]) (rest := []) C ms_X8_isWithin (c_X8_isWithin_n _ _ (sg P a - 48) 4 (by first | assumption | omega) (by first | assumption | omega)) dX3_readNumber_7 rfl wx_X3_66 (pm_sel [0, 1] 2 (by decide +kernel) rfl rfl) rfl rfl (Nat.le_of_ble_eq_true rfl) (Nat.le_of_ble_eq_true rfl) (Nat.le_of_ble_eq_true rfl) (Nat.zero_le _) (Nat.zero_le _) (fun v9 w9 R_5 => ?_)
    obtain ⟨rfl, rfl⟩ := R_5
    show WW κ 0 0 [(p 0, .inr (3, [.ref (p 1), .ref (p 2), .int (nI P.1), .int (nI a)])), (p 1, aC (kG κ) 60 fg)] 10 [(2, .int (nI (sg P a - 48))), (0, .ref (p 0)), (1, .int (nI 4))] [.int (bC ((sg P a - 48) < 4))]
    refine b_if_ne (tg := 15) (nx := 13) C dX3_readNumber_10 rfl rfl (fun h_6 => ?_) (fun h_6 => ?_)
    · refine w_aload_n (nx := 16) C 1 dX3_readNumber_15 rfl rfl rfl ?_
      refine w_dup (nx := 17) C dX3_readNumber_16 rfl rfl ?_
      refine w_get (nx := 20) C fc3 (.int (nI a)) 0 3 dX3_readNumber_17 rfl wl_X3_28 rfl (by decide) rfl rfl ?_
      refine w_iconst (nx := 21) C (nI 1) dX3_readNumber_20 rfl (by decide) ?_
      refine w_iadd (nx := 22) C (nI (a + 1)) dX3_readNumber_21 rfl (nI_add _ _) ?_
      refine w_put (nx := 25) (ws2 := [(p 0, .inr (3, [.ref (p 1), .ref (p 2), .int (nI P.1), .int (nI (a + 1))])), (p 1, aC (kG κ) 60 fg)]) C fc3 0 3 dX3_readNumber_22 rfl wl_X3_28 rfl (by decide) rfl rfl rfl (Nat.le_of_ble_eq_true rfl) rfl ?_
      have LP_7 : ∀ (N9_25 : Nat) (v : Nat) (k9 : Nat) (b : Nat), (nmP P 4 0 a = some (nmL P k9 b v)) → (b ≤ P.1) → (k9 = 0 ∧ v < 4) → k9 < N9_25 → WW κ 0 0 [(p 0, .inr (3, [.ref (p 1), .ref (p 2), .int (nI P.1), .int (nI b)])), (p 1, aC (kG κ) 60 fg)] 25 [(0, .ref (p 0)), (1, .int (nI 4)), (2, .int (nI v))] [] := by
        intro N9_25
        induction N9_25 with
        | zero => intro v k9 b hn hb hv hm9_25; exact absurd hm9_25 (Nat.not_lt_zero _)
        | succ N9_25 ih9_25 =>
          intro v k9 b hn hb hv hm9_25
          refine w_aload_n (nx := 26) C 0 dX3_readNumber_25 rfl rfl rfl ?_
          refine w_get (nx := 29) C fc3 (.int (nI b)) 0 3 dX3_readNumber_26 rfl wl_X3_28 rfl (by decide) rfl rfl ?_
          refine w_aload_n (nx := 30) C 0 dX3_readNumber_29 rfl rfl rfl ?_
          refine w_get (nx := 33) C fc3 (.int (nI P.1)) 0 2 dX3_readNumber_30 rfl wl_X3_24 rfl (by decide) rfl rfl ?_
          refine n_icmp_ge (tg := 84) (nx := 36) C dX3_readNumber_33 rfl rfl (by omega) (by omega) (fun h_8 => ?_) (fun h_8 => ?_)
          · have hs9 : sg P b = 0 := sg_out (by omega)
            refine w_iload_n (nx := 85) C 2 dX3_readNumber_84 rfl rfl rfl ?_
            exact w_iret (ty := .int) C E dX3_readNumber_85 rfl rfl (Nat.le_refl _) (Nat.le_refl _) (Or.inl ⟨v, b, rfl, rfl, (hn.trans (congrArg some (nmL_stop (by omega)))), (by omega), (by omega)⟩)
          · refine w_iload_n (nx := 37) C 2 dX3_readNumber_36 rfl rfl rfl ?_
            refine n_if_eq (tg := 84) (nx := 40) C dX3_readNumber_37 rfl rfl (by omega) (fun h_9 => ?_) (fun h_9 => ?_)
            · refine w_iload_n (nx := 85) C 2 dX3_readNumber_84 rfl rfl rfl ?_
              exact w_iret (ty := .int) C E dX3_readNumber_85 rfl rfl (Nat.le_refl _) (Nat.le_refl _) (Or.inl ⟨v, b, rfl, rfl, (hn.trans (congrArg some (nmL_stop (by omega)))), (by omega), (by omega)⟩)
            · refine w_aload_n (nx := 41) C 0 dX3_readNumber_40 rfl rfl rfl ?_
              refine w_callV (nx := 44) (wr := []) (rest := []) C mi_X3_digit (c_X3_digit _ _ p P fg b (by first | assumption | omega) (by first | assumption | omega) (by first | assumption | omega)) 0 dX3_readNumber_41 rfl wl_X3_63 rfl rfl rfl (pm_sel [0, 1] 2 (by decide +kernel) rfl rfl) rfl rfl (Nat.le_of_ble_eq_true rfl) (Nat.le_of_ble_eq_true rfl) (Nat.le_of_ble_eq_true rfl) (Nat.zero_le _) (Nat.zero_le _) (fun v9 w9 R_10 => ?_)
              rcases R_10 with ⟨rfl, rfl, h1_11, h2_12⟩ | ⟨rfl, rfl, h1_13⟩
              · show WW κ 0 0 [(p 0, .inr (3, [.ref (p 1), .ref (p 2), .int (nI P.1), .int (nI b)])), (p 1, aC (kG κ) 60 fg)] 44 [(0, .ref (p 0)), (1, .int (nI 4)), (2, .int (nI v))] [.int (nI (sg P b - 48))]
                refine w_iconst (nx := 45) C (-1) dX3_readNumber_44 rfl (by decide) ?_
                refine w_icmp_eq (tg := 84) (nx := 48) C dX3_readNumber_45 rfl rfl (fun q9 => absurd q9 (nI_nneg (by omega) (by decide))) (fun _ => ?_)
                refine w_iload_n (nx := 49) C 2 dX3_readNumber_48 rfl rfl rfl ?_
                refine w_bipush (nx := 51) C (nI 10) dX3_readNumber_49 rfl (by decide) ?_
                refine w_imul (nx := 52) C (nI (v * 10)) dX3_readNumber_51 rfl (pk_mul _ _) ?_
                refine w_aload_n (nx := 53) C 0 dX3_readNumber_52 rfl rfl rfl ?_
                refine w_callV (nx := 56) (wr := []) (rest := [.int (nI (v * 10))]) C mi_X3_digit (c_X3_digit _ _ p P fg b (by first | assumption | omega) (by first | assumption | omega) (by first | assumption | omega)) 0 dX3_readNumber_53 rfl wl_X3_63 rfl rfl rfl (pm_sel [0, 1] 2 (by decide +kernel) rfl rfl) rfl rfl (Nat.le_of_ble_eq_true rfl) (Nat.le_of_ble_eq_true rfl) (Nat.le_of_ble_eq_true rfl) (Nat.zero_le _) (Nat.zero_le _) (fun v9 w9 R_15 => ?_)
                rcases R_15 with ⟨rfl, rfl, h1_16, h2_17⟩ | ⟨rfl, rfl, h1_18⟩
                · show WW κ 0 0 [(p 0, .inr (3, [.ref (p 1), .ref (p 2), .int (nI P.1), .int (nI b)])), (p 1, aC (kG κ) 60 fg)] 56 [(0, .ref (p 0)), (1, .int (nI 4)), (2, .int (nI v))] [.int (nI (sg P b - 48)), .int (nI (v * 10))]
                  refine w_iadd (nx := 57) C (nI (v * 10 + (sg P b - 48))) dX3_readNumber_56 rfl (nI_add _ _) ?_
                  refine w_iload_n (nx := 58) C 1 dX3_readNumber_57 rfl rfl rfl ?_
                  refine n_icmp_ge (tg := 84) (nx := 61) C dX3_readNumber_58 rfl rfl (by omega) (by omega) (fun h_19 => ?_) (fun h_19 => ?_)
                  · refine w_iload_n (nx := 85) C 2 dX3_readNumber_84 rfl rfl rfl ?_
                    exact w_iret (ty := .int) C E dX3_readNumber_85 rfl rfl (Nat.le_refl _) (Nat.le_refl _) (Or.inl ⟨v, b, rfl, rfl, (hn.trans (congrArg some (nmL_stop (by omega)))), (by omega), (by omega)⟩)
                  · refine w_iload_n (nx := 62) C 2 dX3_readNumber_61 rfl rfl rfl ?_
                    refine w_bipush (nx := 64) C (nI 10) dX3_readNumber_62 rfl (by decide) ?_
                    refine w_imul (nx := 65) C (nI (v * 10)) dX3_readNumber_64 rfl (pk_mul _ _) ?_
                    refine w_aload_n (nx := 66) C 0 dX3_readNumber_65 rfl rfl rfl ?_
                    refine w_callV (nx := 69) (wr := []) (rest := [.int (nI (v * 10))]) C mi_X3_digit (c_X3_digit _ _ p P fg b (by first | assumption | omega) (by first | assumption | omega) (by first | assumption | omega)) 0 dX3_readNumber_66 rfl wl_X3_63 rfl rfl rfl (pm_sel [0, 1] 2 (by decide +kernel) rfl rfl) rfl rfl (Nat.le_of_ble_eq_true rfl) (Nat.le_of_ble_eq_true rfl) (Nat.le_of_ble_eq_true rfl) (Nat.zero_le _) (Nat.zero_le _) (fun v9 w9 R_20 => ?_)
                    rcases R_20 with ⟨rfl, rfl, h1_21, h2_22⟩ | ⟨rfl, rfl, h1_23⟩
                    · show WW κ 0 0 [(p 0, .inr (3, [.ref (p 1), .ref (p 2), .int (nI P.1), .int (nI b)])), (p 1, aC (kG κ) 60 fg)] 69 [(0, .ref (p 0)), (1, .int (nI 4)), (2, .int (nI v))] [.int (nI (sg P b - 48)), .int (nI (v * 10))]
                      refine w_iadd (nx := 70) C (nI (v * 10 + (sg P b - 48))) dX3_readNumber_69 rfl (nI_add _ _) ?_
                      refine w_istore_n (nx := 71) (lo2 := [(2, .int (nI (v * 10 + (sg P b - 48)))), (0, .ref (p 0)), (1, .int (nI 4))]) C dX3_readNumber_70 rfl rfl (by decide) rfl ?_
                      refine w_aload_n (nx := 72) C 1 dX3_readNumber_71 rfl rfl rfl ?_
                      refine w_dup (nx := 73) C dX3_readNumber_72 rfl rfl ?_
                      refine w_get (nx := 76) C fc3 (.int (nI b)) 0 3 dX3_readNumber_73 rfl wl_X3_28 rfl (by decide) rfl rfl ?_
                      refine w_iconst (nx := 77) C (nI 1) dX3_readNumber_76 rfl (by decide) ?_
                      refine w_iadd (nx := 78) C (nI (b + 1)) dX3_readNumber_77 rfl (nI_add _ _) ?_
                      refine w_put (nx := 81) (ws2 := [(p 0, .inr (3, [.ref (p 1), .ref (p 2), .int (nI P.1), .int (nI (b + 1))])), (p 1, aC (kG κ) 60 fg)]) C fc3 0 3 dX3_readNumber_78 rfl wl_X3_28 rfl (by decide) rfl rfl rfl (Nat.le_of_ble_eq_true rfl) rfl ?_
                      refine w_goto (nx := 25) C dX3_readNumber_81 rfl ?_
                      refine ww_lo [1, 2, 0] (lo' := [(0, .ref (p 0)), (1, .int (nI 4)), (2, .int (nI (v * 10 + (sg P b - 48))))]) rfl ?_
                      exact ih9_25 (v * 10 + (sg P b - 48)) (k9 - 1) (b + 1) (hn.trans (congrArg some (nmL_go (by omega) (by omega) (by omega) (by omega)))) (sg_lt (by omega)) (by first | assumption | omega) (by omega)
                    · show WW κ 0 0 [(p 0, .inr (3, [.ref (p 1), .ref (p 2), .int (nI P.1), .int (nI b)])), (p 1, aC (kG κ) 60 fg)] 69 [(0, .ref (p 0)), (1, .int (nI 4)), (2, .int (nI v))] [.int (-1), .int (nI (v * 10))]
                      exfalso; omega
                · show WW κ 0 0 [(p 0, .inr (3, [.ref (p 1), .ref (p 2), .int (nI P.1), .int (nI b)])), (p 1, aC (kG κ) 60 fg)] 56 [(0, .ref (p 0)), (1, .int (nI 4)), (2, .int (nI v))] [.int (-1), .int (nI (v * 10))]
                  exfalso; omega
              · show WW κ 0 0 [(p 0, .inr (3, [.ref (p 1), .ref (p 2), .int (nI P.1), .int (nI b)])), (p 1, aC (kG κ) 60 fg)] 44 [(0, .ref (p 0)), (1, .int (nI 4)), (2, .int (nI v))] [.int (-1)]
                refine w_iconst (nx := 45) C (-1) dX3_readNumber_44 rfl (by decide) ?_
                refine w_icmp_eq (tg := 84) (nx := 48) C dX3_readNumber_45 rfl rfl (fun _ => ?_) (fun q9 => absurd (by decide) q9)
                refine w_iload_n (nx := 85) C 2 dX3_readNumber_84 rfl rfl rfl ?_
                exact w_iret (ty := .int) C E dX3_readNumber_85 rfl rfl (Nat.le_refl _) (Nat.le_refl _) (Or.inl ⟨v, b, rfl, rfl, (hn.trans (congrArg some (nmL_stop (by omega)))), (by omega), (by omega)⟩)
      refine ww_lo [1, 2, 0] (lo' := [(0, .ref (p 0)), (1, .int (nI 4)), (2, .int (nI (sg P a - 48)))]) rfl ?_
      exact LP_7 _ (sg P a - 48) 0 (a + 1) (nmP_some ⟨by omega, by omega⟩) (sg_lt (by omega)) (by first | assumption | omega) (Nat.lt_succ_self _)
    · refine w_iconst (nx := 14) C (-1) dX3_readNumber_13 rfl (by decide) ?_
      exact w_iret (ty := .int) C E dX3_readNumber_14 rfl rfl (Nat.le_refl _) (Nat.le_refl _) (Or.inr (⟨rfl, rfl, (nmP_none (by omega))⟩))
  · show WW κ 0 0 [(p 0, .inr (3, [.ref (p 1), .ref (p 2), .int (nI P.1), .int (nI a)])), (p 1, aC (kG κ) 60 fg)] 4 [(0, .ref (p 0)), (1, .int (nI 4))] [.int (-1)]
    refine w_istore_n (nx := 5) (lo2 := [(2, .int (-1)), (0, .ref (p 0)), (1, .int (nI 4))]) C dX3_readNumber_4 rfl rfl (by decide) rfl ?_
    refine w_iload_n (nx := 6) C 0 dX3_readNumber_5 rfl rfl rfl ?_
    refine w_iload_n (nx := 7) C 2 dX3_readNumber_6 rfl rfl rfl ?_
    refine w_callN (nx := 10) (wr := [(p 0, .inr (3, [.ref (p 1), .ref (p 2), .int (nI P.1), .int (nI a)])), (p 1, aC (kG κ) 60 fg)]) (rest := []) C ms_X8_isWithin (c_X8_isWithin _ _ (-1) 4 (by first | assumption | omega)) dX3_readNumber_7 rfl wx_X3_66 (pm_sel [0, 1] 2 (by decide +kernel) rfl rfl) rfl rfl (Nat.le_of_ble_eq_true rfl) (Nat.le_of_ble_eq_true rfl) (Nat.le_of_ble_eq_true rfl) (Nat.zero_le _) (Nat.zero_le _) (fun v9 w9 R_25 => ?_)
    obtain ⟨rfl, rfl⟩ := R_25
    show WW κ 0 0 [(p 0, .inr (3, [.ref (p 1), .ref (p 2), .int (nI P.1), .int (nI a)])), (p 1, aC (kG κ) 60 fg)] 10 [(2, .int (-1)), (0, .ref (p 0)), (1, .int (nI 4))] [.int (bC (∃ j, j < 4 ∧ (-1) = nI j))]
    refine b_if_ne (tg := 15) (nx := 13) C dX3_readNumber_10 rfl rfl (fun h_26 => ?_) (fun h_26 => ?_)
    · obtain ⟨j9, hj9, e9⟩ := h_26
      exact absurd e9.symm (nI_nneg (by omega) (by decide))
    · refine w_iconst (nx := 14) C (-1) dX3_readNumber_13 rfl (by decide) ?_
      exact w_iret (ty := .int) C E dX3_readNumber_14 rfl rfl (Nat.le_refl _) (Nat.le_refl _) (Or.inr (⟨rfl, rfl, (nmP_none (by omega))⟩))
set_option maxHeartbeats 4000000 in
set_option maxRecDepth 100000 in
theorem c_X3_readNumber_100 (l : Launch) (G : GG) (p : Nat → Nat) (P : PD) (fg : Nat → Int32) (a : Nat) (hP : rP fg P) (hw : wfP P) (ha : a ≤ 60) : MT l G yX3_readNumber cX3_readNumber 3 (some .int) 4 0 0 [.ref (p 0), .int (nI 100)] [(p 0, .inr (3, [.ref (p 1), .ref (p 2), .int (nI P.1), .int (nI a)])), (p 1, aC G 60 fg)] (fun v9 ws9 => (∃ (v : Nat) (a2 : Nat), v9 = some (.int (nI v)) ∧ ws9 = [(p 0, .inr (3, [.ref (p 1), .ref (p 2), .int (nI P.1), .int (nI a2)])), (p 1, aC G 60 fg)] ∧ nmP P 10 1 a = some (v, a2) ∧ v < 100 ∧ a2 ≤ 60) ∨ (v9 = some (.int (-1)) ∧ ws9 = [(p 0, .inr (3, [.ref (p 1), .ref (p 2), .int (nI P.1), .int (nI a)])), (p 1, aC G 60 fg)] ∧ nmP P 10 1 a = none)) := by
  refine MT.of RX3 [(0, .ref (p 0)), (1, .int (nI 100))] (by decide +kernel) rfl rfl (Nat.le_of_ble_eq_true rfl) (fun κ C E hl9 hG9 hnm9 => ?_)
  subst hl9; subst hG9
  have hz9 := hw.1
  refine w_aload_n (nx := 1) C 0 dX3_readNumber_0 rfl rfl rfl ?_
  refine w_callV (nx := 4) (wr := []) (rest := []) C mi_X3_digit (c_X3_digit _ _ p P fg a (by first | assumption | omega) (by first | assumption | omega) (by first | assumption | omega)) 0 dX3_readNumber_1 rfl wl_X3_63 rfl rfl rfl (pm_sel [0, 1] 2 (by decide +kernel) rfl rfl) rfl rfl (Nat.le_of_ble_eq_true rfl) (Nat.le_of_ble_eq_true rfl) (Nat.le_of_ble_eq_true rfl) (Nat.zero_le _) (Nat.zero_le _) (fun v9 w9 R_1 => ?_)
  rcases R_1 with ⟨rfl, rfl, h1_2, h2_3⟩ | ⟨rfl, rfl, h1_4⟩
  · show WW κ 0 0 [(p 0, .inr (3, [.ref (p 1), .ref (p 2), .int (nI P.1), .int (nI a)])), (p 1, aC (kG κ) 60 fg)] 4 [(0, .ref (p 0)), (1, .int (nI 100))] [.int (nI (sg P a - 48))]
    refine w_istore_n (nx := 5) (lo2 := [(2, .int (nI (sg P a - 48))), (0, .ref (p 0)), (1, .int (nI 100))]) C dX3_readNumber_4 rfl rfl (by decide) rfl ?_
    refine w_iload_n (nx := 6) C 0 dX3_readNumber_5 rfl rfl rfl ?_
    refine w_iload_n (nx := 7) C 2 dX3_readNumber_6 rfl rfl rfl ?_
    refine w_callN (nx := 10) (wr := [(p 0, .inr (3, [.ref (p 1), .ref (p 2), .int (nI P.1), .int (nI a)])), (p 1, aC (kG κ) 60 fg)]) (rest := []) C ms_X8_isWithin (c_X8_isWithin_n _ _ (sg P a - 48) 100 (by first | assumption | omega) (by first | assumption | omega)) dX3_readNumber_7 rfl wx_X3_66 (pm_sel [0, 1] 2 (by decide +kernel) rfl rfl) rfl rfl (Nat.le_of_ble_eq_true rfl) (Nat.le_of_ble_eq_true rfl) (Nat.le_of_ble_eq_true rfl) (Nat.zero_le _) (Nat.zero_le _) (fun v9 w9 R_5 => ?_)
    obtain ⟨rfl, rfl⟩ := R_5
    show WW κ 0 0 [(p 0, .inr (3, [.ref (p 1), .ref (p 2), .int (nI P.1), .int (nI a)])), (p 1, aC (kG κ) 60 fg)] 10 [(2, .int (nI (sg P a - 48))), (0, .ref (p 0)), (1, .int (nI 100))] [.int (bC ((sg P a - 48) < 100))]
    refine b_if_ne (tg := 15) (nx := 13) C dX3_readNumber_10 rfl rfl (fun h_6 => ?_) (fun h_6 => ?_)
    · refine w_aload_n (nx := 16) C 1 dX3_readNumber_15 rfl rfl rfl ?_
      refine w_dup (nx := 17) C dX3_readNumber_16 rfl rfl ?_
      refine w_get (nx := 20) C fc3 (.int (nI a)) 0 3 dX3_readNumber_17 rfl wl_X3_28 rfl (by decide) rfl rfl ?_
      refine w_iconst (nx := 21) C (nI 1) dX3_readNumber_20 rfl (by decide) ?_
      refine w_iadd (nx := 22) C (nI (a + 1)) dX3_readNumber_21 rfl (nI_add _ _) ?_
      refine w_put (nx := 25) (ws2 := [(p 0, .inr (3, [.ref (p 1), .ref (p 2), .int (nI P.1), .int (nI (a + 1))])), (p 1, aC (kG κ) 60 fg)]) C fc3 0 3 dX3_readNumber_22 rfl wl_X3_28 rfl (by decide) rfl rfl rfl (Nat.le_of_ble_eq_true rfl) rfl ?_
      have LP_7 : ∀ (N9_25 : Nat) (v : Nat) (k9 : Nat) (b : Nat), (nmP P 10 1 a = some (nmL P k9 b v)) → (b ≤ P.1) → ((k9 = 1 ∧ v < 10) ∨ (k9 = 0 ∧ (v = 0 ∨ 10 ≤ v) ∧ v < 100)) → k9 < N9_25 → WW κ 0 0 [(p 0, .inr (3, [.ref (p 1), .ref (p 2), .int (nI P.1), .int (nI b)])), (p 1, aC (kG κ) 60 fg)] 25 [(0, .ref (p 0)), (1, .int (nI 100)), (2, .int (nI v))] [] := by
        intro N9_25
        induction N9_25 with
        | zero => intro v k9 b hn hb hv hm9_25; exact absurd hm9_25 (Nat.not_lt_zero _)
        | succ N9_25 ih9_25 =>
          intro v k9 b hn hb hv hm9_25
          refine w_aload_n (nx := 26) C 0 dX3_readNumber_25 rfl rfl rfl ?_
          refine w_get (nx := 29) C fc3 (.int (nI b)) 0 3 dX3_readNumber_26 rfl wl_X3_28 rfl (by decide) rfl rfl ?_
          refine w_aload_n (nx := 30) C 0 dX3_readNumber_29 rfl rfl rfl ?_
          refine w_get (nx := 33) C fc3 (.int (nI P.1)) 0 2 dX3_readNumber_30 rfl wl_X3_24 rfl (by decide) rfl rfl ?_
          refine n_icmp_ge (tg := 84) (nx := 36) C dX3_readNumber_33 rfl rfl (by omega) (by omega) (fun h_8 => ?_) (fun h_8 => ?_)
          · have hs9 : sg P b = 0 := sg_out (by omega)
            refine w_iload_n (nx := 85) C 2 dX3_readNumber_84 rfl rfl rfl ?_
            exact w_iret (ty := .int) C E dX3_readNumber_85 rfl rfl (Nat.le_refl _) (Nat.le_refl _) (Or.inl ⟨v, b, rfl, rfl, (hn.trans (congrArg some (nmL_stop (by omega)))), (by omega), (by omega)⟩)
          · refine w_iload_n (nx := 37) C 2 dX3_readNumber_36 rfl rfl rfl ?_
            refine n_if_eq (tg := 84) (nx := 40) C dX3_readNumber_37 rfl rfl (by omega) (fun h_9 => ?_) (fun h_9 => ?_)
            · refine w_iload_n (nx := 85) C 2 dX3_readNumber_84 rfl rfl rfl ?_
              exact w_iret (ty := .int) C E dX3_readNumber_85 rfl rfl (Nat.le_refl _) (Nat.le_refl _) (Or.inl ⟨v, b, rfl, rfl, (hn.trans (congrArg some (nmL_stop (by omega)))), (by omega), (by omega)⟩)
            · refine w_aload_n (nx := 41) C 0 dX3_readNumber_40 rfl rfl rfl ?_
              refine w_callV (nx := 44) (wr := []) (rest := []) C mi_X3_digit (c_X3_digit _ _ p P fg b (by first | assumption | omega) (by first | assumption | omega) (by first | assumption | omega)) 0 dX3_readNumber_41 rfl wl_X3_63 rfl rfl rfl (pm_sel [0, 1] 2 (by decide +kernel) rfl rfl) rfl rfl (Nat.le_of_ble_eq_true rfl) (Nat.le_of_ble_eq_true rfl) (Nat.le_of_ble_eq_true rfl) (Nat.zero_le _) (Nat.zero_le _) (fun v9 w9 R_10 => ?_)
              rcases R_10 with ⟨rfl, rfl, h1_11, h2_12⟩ | ⟨rfl, rfl, h1_13⟩
              · show WW κ 0 0 [(p 0, .inr (3, [.ref (p 1), .ref (p 2), .int (nI P.1), .int (nI b)])), (p 1, aC (kG κ) 60 fg)] 44 [(0, .ref (p 0)), (1, .int (nI 100)), (2, .int (nI v))] [.int (nI (sg P b - 48))]
                refine w_iconst (nx := 45) C (-1) dX3_readNumber_44 rfl (by decide) ?_
                refine w_icmp_eq (tg := 84) (nx := 48) C dX3_readNumber_45 rfl rfl (fun q9 => absurd q9 (nI_nneg (by omega) (by decide))) (fun _ => ?_)
                refine w_iload_n (nx := 49) C 2 dX3_readNumber_48 rfl rfl rfl ?_
                refine w_bipush (nx := 51) C (nI 10) dX3_readNumber_49 rfl (by decide) ?_
                refine w_imul (nx := 52) C (nI (v * 10)) dX3_readNumber_51 rfl (pk_mul _ _) ?_
                refine w_aload_n (nx := 53) C 0 dX3_readNumber_52 rfl rfl rfl ?_
                refine w_callV (nx := 56) (wr := []) (rest := [.int (nI (v * 10))]) C mi_X3_digit (c_X3_digit _ _ p P fg b (by first | assumption | omega) (by first | assumption | omega) (by first | assumption | omega)) 0 dX3_readNumber_53 rfl wl_X3_63 rfl rfl rfl (pm_sel [0, 1] 2 (by decide +kernel) rfl rfl) rfl rfl (Nat.le_of_ble_eq_true rfl) (Nat.le_of_ble_eq_true rfl) (Nat.le_of_ble_eq_true rfl) (Nat.zero_le _) (Nat.zero_le _) (fun v9 w9 R_15 => ?_)
                rcases R_15 with ⟨rfl, rfl, h1_16, h2_17⟩ | ⟨rfl, rfl, h1_18⟩
                · show WW κ 0 0 [(p 0, .inr (3, [.ref (p 1), .ref (p 2), .int (nI P.1), .int (nI b)])), (p 1, aC (kG κ) 60 fg)] 56 [(0, .ref (p 0)), (1, .int (nI 100)), (2, .int (nI v))] [.int (nI (sg P b - 48)), .int (nI (v * 10))]
                  refine w_iadd (nx := 57) C (nI (v * 10 + (sg P b - 48))) dX3_readNumber_56 rfl (nI_add _ _) ?_
                  refine w_iload_n (nx := 58) C 1 dX3_readNumber_57 rfl rfl rfl ?_
                  refine n_icmp_ge (tg := 84) (nx := 61) C dX3_readNumber_58 rfl rfl (by omega) (by omega) (fun h_19 => ?_) (fun h_19 => ?_)
                  · refine w_iload_n (nx := 85) C 2 dX3_readNumber_84 rfl rfl rfl ?_
                    exact w_iret (ty := .int) C E dX3_readNumber_85 rfl rfl (Nat.le_refl _) (Nat.le_refl _) (Or.inl ⟨v, b, rfl, rfl, (hn.trans (congrArg some (nmL_stop (by omega)))), (by omega), (by omega)⟩)
                  · refine w_iload_n (nx := 62) C 2 dX3_readNumber_61 rfl rfl rfl ?_
                    refine w_bipush (nx := 64) C (nI 10) dX3_readNumber_62 rfl (by decide) ?_
                    refine w_imul (nx := 65) C (nI (v * 10)) dX3_readNumber_64 rfl (pk_mul _ _) ?_
                    refine w_aload_n (nx := 66) C 0 dX3_readNumber_65 rfl rfl rfl ?_
                    refine w_callV (nx := 69) (wr := []) (rest := [.int (nI (v * 10))]) C mi_X3_digit (c_X3_digit _ _ p P fg b (by first | assumption | omega) (by first | assumption | omega) (by first | assumption | omega)) 0 dX3_readNumber_66 rfl wl_X3_63 rfl rfl rfl (pm_sel [0, 1] 2 (by decide +kernel) rfl rfl) rfl rfl (Nat.le_of_ble_eq_true rfl) (Nat.le_of_ble_eq_true rfl) (Nat.le_of_ble_eq_true rfl) (Nat.zero_le _) (Nat.zero_le _) (fun v9 w9 R_20 => ?_)
                    rcases R_20 with ⟨rfl, rfl, h1_21, h2_22⟩ | ⟨rfl, rfl, h1_23⟩
                    · show WW κ 0 0 [(p 0, .inr (3, [.ref (p 1), .ref (p 2), .int (nI P.1), .int (nI b)])), (p 1, aC (kG κ) 60 fg)] 69 [(0, .ref (p 0)), (1, .int (nI 100)), (2, .int (nI v))] [.int (nI (sg P b - 48)), .int (nI (v * 10))]
                      refine w_iadd (nx := 70) C (nI (v * 10 + (sg P b - 48))) dX3_readNumber_69 rfl (nI_add _ _) ?_
                      refine w_istore_n (nx := 71) (lo2 := [(2, .int (nI (v * 10 + (sg P b - 48)))), (0, .ref (p 0)), (1, .int (nI 100))]) C dX3_readNumber_70 rfl rfl (by decide) rfl ?_
                      refine w_aload_n (nx := 72) C 1 dX3_readNumber_71 rfl rfl rfl ?_
                      refine w_dup (nx := 73) C dX3_readNumber_72 rfl rfl ?_
                      refine w_get (nx := 76) C fc3 (.int (nI b)) 0 3 dX3_readNumber_73 rfl wl_X3_28 rfl (by decide) rfl rfl ?_
                      refine w_iconst (nx := 77) C (nI 1) dX3_readNumber_76 rfl (by decide) ?_
                      refine w_iadd (nx := 78) C (nI (b + 1)) dX3_readNumber_77 rfl (nI_add _ _) ?_
                      refine w_put (nx := 81) (ws2 := [(p 0, .inr (3, [.ref (p 1), .ref (p 2), .int (nI P.1), .int (nI (b + 1))])), (p 1, aC (kG κ) 60 fg)]) C fc3 0 3 dX3_readNumber_78 rfl wl_X3_28 rfl (by decide) rfl rfl rfl (Nat.le_of_ble_eq_true rfl) rfl ?_
                      refine w_goto (nx := 25) C dX3_readNumber_81 rfl ?_
                      refine ww_lo [1, 2, 0] (lo' := [(0, .ref (p 0)), (1, .int (nI 100)), (2, .int (nI (v * 10 + (sg P b - 48))))]) rfl ?_
                      exact ih9_25 (v * 10 + (sg P b - 48)) (k9 - 1) (b + 1) (hn.trans (congrArg some (nmL_go (by omega) (by omega) (by omega) (by omega)))) (sg_lt (by omega)) (by first | assumption | omega) (by omega)
                    · show WW κ 0 0 [(p 0, .inr (3, [.ref (p 1), .ref (p 2), .int (nI P.1), .int (nI b)])), (p 1, aC (kG κ) 60 fg)] 69 [(0, .ref (p 0)), (1, .int (nI 100)), (2, .int (nI v))] [.int (-1), .int (nI (v * 10))]
                      exfalso; omega
                · show WW κ 0 0 [(p 0, .inr (3, [.ref (p 1), .ref (p 2), .int (nI P.1), .int (nI b)])), (p 1, aC (kG κ) 60 fg)] 56 [(0, .ref (p 0)), (1, .int (nI 100)), (2, .int (nI v))] [.int (-1), .int (nI (v * 10))]
                  exfalso; omega
              · show WW κ 0 0 [(p 0, .inr (3, [.ref (p 1), .ref (p 2), .int (nI P.1), .int (nI b)])), (p 1, aC (kG κ) 60 fg)] 44 [(0, .ref (p 0)), (1, .int (nI 100)), (2, .int (nI v))] [.int (-1)]
                refine w_iconst (nx := 45) C (-1) dX3_readNumber_44 rfl (by decide) ?_
                refine w_icmp_eq (tg := 84) (nx := 48) C dX3_readNumber_45 rfl rfl (fun _ => ?_) (fun q9 => absurd (by decide) q9)
                refine w_iload_n (nx := 85) C 2 dX3_readNumber_84 rfl rfl rfl ?_
                exact w_iret (ty := .int) C E dX3_readNumber_85 rfl rfl (Nat.le_refl _) (Nat.le_refl _) (Or.inl ⟨v, b, rfl, rfl, (hn.trans (congrArg some (nmL_stop (by omega)))), (by omega), (by omega)⟩)
      refine ww_lo [1, 2, 0] (lo' := [(0, .ref (p 0)), (1, .int (nI 100)), (2, .int (nI (sg P a - 48)))]) rfl ?_
      exact LP_7 _ (sg P a - 48) 1 (a + 1) (nmP_some ⟨by omega, by omega⟩) (sg_lt (by omega)) (by first | assumption | omega) (Nat.lt_succ_self _)
    · refine w_iconst (nx := 14) C (-1) dX3_readNumber_13 rfl (by decide) ?_
      exact w_iret (ty := .int) C E dX3_readNumber_14 rfl rfl (Nat.le_refl _) (Nat.le_refl _) (Or.inr (⟨rfl, rfl, (nmP_none (by omega))⟩))
  · show WW κ 0 0 [(p 0, .inr (3, [.ref (p 1), .ref (p 2), .int (nI P.1), .int (nI a)])), (p 1, aC (kG κ) 60 fg)] 4 [(0, .ref (p 0)), (1, .int (nI 100))] [.int (-1)]
    refine w_istore_n (nx := 5) (lo2 := [(2, .int (-1)), (0, .ref (p 0)), (1, .int (nI 100))]) C dX3_readNumber_4 rfl rfl (by decide) rfl ?_
    refine w_iload_n (nx := 6) C 0 dX3_readNumber_5 rfl rfl rfl ?_
    refine w_iload_n (nx := 7) C 2 dX3_readNumber_6 rfl rfl rfl ?_
    refine w_callN (nx := 10) (wr := [(p 0, .inr (3, [.ref (p 1), .ref (p 2), .int (nI P.1), .int (nI a)])), (p 1, aC (kG κ) 60 fg)]) (rest := []) C ms_X8_isWithin (c_X8_isWithin _ _ (-1) 100 (by first | assumption | omega)) dX3_readNumber_7 rfl wx_X3_66 (pm_sel [0, 1] 2 (by decide +kernel) rfl rfl) rfl rfl (Nat.le_of_ble_eq_true rfl) (Nat.le_of_ble_eq_true rfl) (Nat.le_of_ble_eq_true rfl) (Nat.zero_le _) (Nat.zero_le _) (fun v9 w9 R_25 => ?_)
    obtain ⟨rfl, rfl⟩ := R_25
    show WW κ 0 0 [(p 0, .inr (3, [.ref (p 1), .ref (p 2), .int (nI P.1), .int (nI a)])), (p 1, aC (kG κ) 60 fg)] 10 [(2, .int (-1)), (0, .ref (p 0)), (1, .int (nI 100))] [.int (bC (∃ j, j < 100 ∧ (-1) = nI j))]
    refine b_if_ne (tg := 15) (nx := 13) C dX3_readNumber_10 rfl rfl (fun h_26 => ?_) (fun h_26 => ?_)
    · obtain ⟨j9, hj9, e9⟩ := h_26
      exact absurd e9.symm (nI_nneg (by omega) (by decide))
    · refine w_iconst (nx := 14) C (-1) dX3_readNumber_13 rfl (by decide) ?_
      exact w_iret (ty := .int) C E dX3_readNumber_14 rfl rfl (Nat.le_refl _) (Nat.le_refl _) (Or.inr (⟨rfl, rfl, (nmP_none (by omega))⟩))
set_option maxHeartbeats 4000000 in
set_option maxRecDepth 100000 in
theorem c_X3_readNumber_1000 (l : Launch) (G : GG) (p : Nat → Nat) (P : PD) (fg : Nat → Int32) (a : Nat) (hP : rP fg P) (hw : wfP P) (ha : a ≤ 60) : MT l G yX3_readNumber cX3_readNumber 3 (some .int) 4 0 0 [.ref (p 0), .int (nI 1000)] [(p 0, .inr (3, [.ref (p 1), .ref (p 2), .int (nI P.1), .int (nI a)])), (p 1, aC G 60 fg)] (fun v9 ws9 => (∃ (v : Nat) (a2 : Nat), v9 = some (.int (nI v)) ∧ ws9 = [(p 0, .inr (3, [.ref (p 1), .ref (p 2), .int (nI P.1), .int (nI a2)])), (p 1, aC G 60 fg)] ∧ nmP P 10 2 a = some (v, a2) ∧ v < 1000 ∧ a2 ≤ 60) ∨ (v9 = some (.int (-1)) ∧ ws9 = [(p 0, .inr (3, [.ref (p 1), .ref (p 2), .int (nI P.1), .int (nI a)])), (p 1, aC G 60 fg)] ∧ nmP P 10 2 a = none)) := by
  refine MT.of RX3 [(0, .ref (p 0)), (1, .int (nI 1000))] (by decide +kernel) rfl rfl (Nat.le_of_ble_eq_true rfl) (fun κ C E hl9 hG9 hnm9 => ?_)
  subst hl9; subst hG9
  have hz9 := hw.1
  refine w_aload_n (nx := 1) C 0 dX3_readNumber_0 rfl rfl rfl ?_
  refine w_callV (nx := 4) (wr := []) (rest := []) C mi_X3_digit (c_X3_digit _ _ p P fg a (by first | assumption | omega) (by first | assumption | omega) (by first | assumption | omega)) 0 dX3_readNumber_1 rfl wl_X3_63 rfl rfl rfl (pm_sel [0, 1] 2 (by decide +kernel) rfl rfl) rfl rfl (Nat.le_of_ble_eq_true rfl) (Nat.le_of_ble_eq_true rfl) (Nat.le_of_ble_eq_true rfl) (Nat.zero_le _) (Nat.zero_le _) (fun v9 w9 R_1 => ?_)
  rcases R_1 with ⟨rfl, rfl, h1_2, h2_3⟩ | ⟨rfl, rfl, h1_4⟩
  · show WW κ 0 0 [(p 0, .inr (3, [.ref (p 1), .ref (p 2), .int (nI P.1), .int (nI a)])), (p 1, aC (kG κ) 60 fg)] 4 [(0, .ref (p 0)), (1, .int (nI 1000))] [.int (nI (sg P a - 48))]
    refine w_istore_n (nx := 5) (lo2 := [(2, .int (nI (sg P a - 48))), (0, .ref (p 0)), (1, .int (nI 1000))]) C dX3_readNumber_4 rfl rfl (by decide) rfl ?_
    refine w_iload_n (nx := 6) C 0 dX3_readNumber_5 rfl rfl rfl ?_
    refine w_iload_n (nx := 7) C 2 dX3_readNumber_6 rfl rfl rfl ?_
    refine w_callN (nx := 10) (wr := [(p 0, .inr (3, [.ref (p 1), .ref (p 2), .int (nI P.1), .int (nI a)])), (p 1, aC (kG κ) 60 fg)]) (rest := []) C ms_X8_isWithin (c_X8_isWithin_n _ _ (sg P a - 48) 1000 (by first | assumption | omega) (by first | assumption | omega)) dX3_readNumber_7 rfl wx_X3_66 (pm_sel [0, 1] 2 (by decide +kernel) rfl rfl) rfl rfl (Nat.le_of_ble_eq_true rfl) (Nat.le_of_ble_eq_true rfl) (Nat.le_of_ble_eq_true rfl) (Nat.zero_le _) (Nat.zero_le _) (fun v9 w9 R_5 => ?_)
    obtain ⟨rfl, rfl⟩ := R_5
    show WW κ 0 0 [(p 0, .inr (3, [.ref (p 1), .ref (p 2), .int (nI P.1), .int (nI a)])), (p 1, aC (kG κ) 60 fg)] 10 [(2, .int (nI (sg P a - 48))), (0, .ref (p 0)), (1, .int (nI 1000))] [.int (bC ((sg P a - 48) < 1000))]
    refine b_if_ne (tg := 15) (nx := 13) C dX3_readNumber_10 rfl rfl (fun h_6 => ?_) (fun h_6 => ?_)
    · refine w_aload_n (nx := 16) C 1 dX3_readNumber_15 rfl rfl rfl ?_
      refine w_dup (nx := 17) C dX3_readNumber_16 rfl rfl ?_
      refine w_get (nx := 20) C fc3 (.int (nI a)) 0 3 dX3_readNumber_17 rfl wl_X3_28 rfl (by decide) rfl rfl ?_
      refine w_iconst (nx := 21) C (nI 1) dX3_readNumber_20 rfl (by decide) ?_
      refine w_iadd (nx := 22) C (nI (a + 1)) dX3_readNumber_21 rfl (nI_add _ _) ?_
      refine w_put (nx := 25) (ws2 := [(p 0, .inr (3, [.ref (p 1), .ref (p 2), .int (nI P.1), .int (nI (a + 1))])), (p 1, aC (kG κ) 60 fg)]) C fc3 0 3 dX3_readNumber_22 rfl wl_X3_28 rfl (by decide) rfl rfl rfl (Nat.le_of_ble_eq_true rfl) rfl ?_
      have LP_7 : ∀ (N9_25 : Nat) (v : Nat) (k9 : Nat) (b : Nat), (nmP P 10 2 a = some (nmL P k9 b v)) → (b ≤ P.1) → ((k9 = 2 ∧ v < 10) ∨ (k9 = 1 ∧ (v = 0 ∨ 10 ≤ v) ∧ v < 100) ∨ (k9 = 0 ∧ (v = 0 ∨ 100 ≤ v) ∧ v < 1000)) → k9 < N9_25 → WW κ 0 0 [(p 0, .inr (3, [.ref (p 1), .ref (p 2), .int (nI P.1), .int (nI b)])), (p 1, aC (kG κ) 60 fg)] 25 [(0, .ref (p 0)), (1, .int (nI 1000)), (2, .int (nI v))] [] := by
        intro N9_25
        induction N9_25 with
        | zero => intro v k9 b hn hb hv hm9_25; exact absurd hm9_25 (Nat.not_lt_zero _)
        | succ N9_25 ih9_25 =>
          intro v k9 b hn hb hv hm9_25
          refine w_aload_n (nx := 26) C 0 dX3_readNumber_25 rfl rfl rfl ?_
          refine w_get (nx := 29) C fc3 (.int (nI b)) 0 3 dX3_readNumber_26 rfl wl_X3_28 rfl (by decide) rfl rfl ?_
          refine w_aload_n (nx := 30) C 0 dX3_readNumber_29 rfl rfl rfl ?_
          refine w_get (nx := 33) C fc3 (.int (nI P.1)) 0 2 dX3_readNumber_30 rfl wl_X3_24 rfl (by decide) rfl rfl ?_
          refine n_icmp_ge (tg := 84) (nx := 36) C dX3_readNumber_33 rfl rfl (by omega) (by omega) (fun h_8 => ?_) (fun h_8 => ?_)
          · have hs9 : sg P b = 0 := sg_out (by omega)
            refine w_iload_n (nx := 85) C 2 dX3_readNumber_84 rfl rfl rfl ?_
            exact w_iret (ty := .int) C E dX3_readNumber_85 rfl rfl (Nat.le_refl _) (Nat.le_refl _) (Or.inl ⟨v, b, rfl, rfl, (hn.trans (congrArg some (nmL_stop (by omega)))), (by omega), (by omega)⟩)
          · refine w_iload_n (nx := 37) C 2 dX3_readNumber_36 rfl rfl rfl ?_
            refine n_if_eq (tg := 84) (nx := 40) C dX3_readNumber_37 rfl rfl (by omega) (fun h_9 => ?_) (fun h_9 => ?_)
            · refine w_iload_n (nx := 85) C 2 dX3_readNumber_84 rfl rfl rfl ?_
              exact w_iret (ty := .int) C E dX3_readNumber_85 rfl rfl (Nat.le_refl _) (Nat.le_refl _) (Or.inl ⟨v, b, rfl, rfl, (hn.trans (congrArg some (nmL_stop (by omega)))), (by omega), (by omega)⟩)
            · refine w_aload_n (nx := 41) C 0 dX3_readNumber_40 rfl rfl rfl ?_
              refine w_callV (nx := 44) (wr := []) (rest := []) C mi_X3_digit (c_X3_digit _ _ p P fg b (by first | assumption | omega) (by first | assumption | omega) (by first | assumption | omega)) 0 dX3_readNumber_41 rfl wl_X3_63 rfl rfl rfl (pm_sel [0, 1] 2 (by decide +kernel) rfl rfl) rfl rfl (Nat.le_of_ble_eq_true rfl) (Nat.le_of_ble_eq_true rfl) (Nat.le_of_ble_eq_true rfl) (Nat.zero_le _) (Nat.zero_le _) (fun v9 w9 R_10 => ?_)
              rcases R_10 with ⟨rfl, rfl, h1_11, h2_12⟩ | ⟨rfl, rfl, h1_13⟩
              · show WW κ 0 0 [(p 0, .inr (3, [.ref (p 1), .ref (p 2), .int (nI P.1), .int (nI b)])), (p 1, aC (kG κ) 60 fg)] 44 [(0, .ref (p 0)), (1, .int (nI 1000)), (2, .int (nI v))] [.int (nI (sg P b - 48))]
                refine w_iconst (nx := 45) C (-1) dX3_readNumber_44 rfl (by decide) ?_
                refine w_icmp_eq (tg := 84) (nx := 48) C dX3_readNumber_45 rfl rfl (fun q9 => absurd q9 (nI_nneg (by omega) (by decide))) (fun _ => ?_)
                refine w_iload_n (nx := 49) C 2 dX3_readNumber_48 rfl rfl rfl ?_
                refine w_bipush (nx := 51) C (nI 10) dX3_readNumber_49 rfl (by decide) ?_
                refine w_imul (nx := 52) C (nI (v * 10)) dX3_readNumber_51 rfl (pk_mul _ _) ?_
                refine w_aload_n (nx := 53) C 0 dX3_readNumber_52 rfl rfl rfl ?_
                refine w_callV (nx := 56) (wr := []) (rest := [.int (nI (v * 10))]) C mi_X3_digit (c_X3_digit _ _ p P fg b (by first | assumption | omega) (by first | assumption | omega) (by first | assumption | omega)) 0 dX3_readNumber_53 rfl wl_X3_63 rfl rfl rfl (pm_sel [0, 1] 2 (by decide +kernel) rfl rfl) rfl rfl (Nat.le_of_ble_eq_true rfl) (Nat.le_of_ble_eq_true rfl) (Nat.le_of_ble_eq_true rfl) (Nat.zero_le _) (Nat.zero_le _) (fun v9 w9 R_15 => ?_)
                rcases R_15 with ⟨rfl, rfl, h1_16, h2_17⟩ | ⟨rfl, rfl, h1_18⟩
                · show WW κ 0 0 [(p 0, .inr (3, [.ref (p 1), .ref (p 2), .int (nI P.1), .int (nI b)])), (p 1, aC (kG κ) 60 fg)] 56 [(0, .ref (p 0)), (1, .int (nI 1000)), (2, .int (nI v))] [.int (nI (sg P b - 48)), .int (nI (v * 10))]
                  refine w_iadd (nx := 57) C (nI (v * 10 + (sg P b - 48))) dX3_readNumber_56 rfl (nI_add _ _) ?_
                  refine w_iload_n (nx := 58) C 1 dX3_readNumber_57 rfl rfl rfl ?_
                  refine n_icmp_ge (tg := 84) (nx := 61) C dX3_readNumber_58 rfl rfl (by omega) (by omega) (fun h_19 => ?_) (fun h_19 => ?_)
                  · refine w_iload_n (nx := 85) C 2 dX3_readNumber_84 rfl rfl rfl ?_
                    exact w_iret (ty := .int) C E dX3_readNumber_85 rfl rfl (Nat.le_refl _) (Nat.le_refl _) (Or.inl ⟨v, b, rfl, rfl, (hn.trans (congrArg some (nmL_stop (by omega)))), (by omega), (by omega)⟩)
                  · refine w_iload_n (nx := 62) C 2 dX3_readNumber_61 rfl rfl rfl ?_
                    refine w_bipush (nx := 64) C (nI 10) dX3_readNumber_62 rfl (by decide) ?_
                    refine w_imul (nx := 65) C (nI (v * 10)) dX3_readNumber_64 rfl (pk_mul _ _) ?_
                    refine w_aload_n (nx := 66) C 0 dX3_readNumber_65 rfl rfl rfl ?_
                    refine w_callV (nx := 69) (wr := []) (rest := [.int (nI (v * 10))]) C mi_X3_digit (c_X3_digit _ _ p P fg b (by first | assumption | omega) (by first | assumption | omega) (by first | assumption | omega)) 0 dX3_readNumber_66 rfl wl_X3_63 rfl rfl rfl (pm_sel [0, 1] 2 (by decide +kernel) rfl rfl) rfl rfl (Nat.le_of_ble_eq_true rfl) (Nat.le_of_ble_eq_true rfl) (Nat.le_of_ble_eq_true rfl) (Nat.zero_le _) (Nat.zero_le _) (fun v9 w9 R_20 => ?_)
                    rcases R_20 with ⟨rfl, rfl, h1_21, h2_22⟩ | ⟨rfl, rfl, h1_23⟩
                    · show WW κ 0 0 [(p 0, .inr (3, [.ref (p 1), .ref (p 2), .int (nI P.1), .int (nI b)])), (p 1, aC (kG κ) 60 fg)] 69 [(0, .ref (p 0)), (1, .int (nI 1000)), (2, .int (nI v))] [.int (nI (sg P b - 48)), .int (nI (v * 10))]
                      refine w_iadd (nx := 70) C (nI (v * 10 + (sg P b - 48))) dX3_readNumber_69 rfl (nI_add _ _) ?_
                      refine w_istore_n (nx := 71) (lo2 := [(2, .int (nI (v * 10 + (sg P b - 48)))), (0, .ref (p 0)), (1, .int (nI 1000))]) C dX3_readNumber_70 rfl rfl (by decide) rfl ?_
                      refine w_aload_n (nx := 72) C 1 dX3_readNumber_71 rfl rfl rfl ?_
                      refine w_dup (nx := 73) C dX3_readNumber_72 rfl rfl ?_
                      refine w_get (nx := 76) C fc3 (.int (nI b)) 0 3 dX3_readNumber_73 rfl wl_X3_28 rfl (by decide) rfl rfl ?_
                      refine w_iconst (nx := 77) C (nI 1) dX3_readNumber_76 rfl (by decide) ?_
                      refine w_iadd (nx := 78) C (nI (b + 1)) dX3_readNumber_77 rfl (nI_add _ _) ?_
                      refine w_put (nx := 81) (ws2 := [(p 0, .inr (3, [.ref (p 1), .ref (p 2), .int (nI P.1), .int (nI (b + 1))])), (p 1, aC (kG κ) 60 fg)]) C fc3 0 3 dX3_readNumber_78 rfl wl_X3_28 rfl (by decide) rfl rfl rfl (Nat.le_of_ble_eq_true rfl) rfl ?_
                      refine w_goto (nx := 25) C dX3_readNumber_81 rfl ?_
                      refine ww_lo [1, 2, 0] (lo' := [(0, .ref (p 0)), (1, .int (nI 1000)), (2, .int (nI (v * 10 + (sg P b - 48))))]) rfl ?_
                      exact ih9_25 (v * 10 + (sg P b - 48)) (k9 - 1) (b + 1) (hn.trans (congrArg some (nmL_go (by omega) (by omega) (by omega) (by omega)))) (sg_lt (by omega)) (by first | assumption | omega) (by omega)
                    · show WW κ 0 0 [(p 0, .inr (3, [.ref (p 1), .ref (p 2), .int (nI P.1), .int (nI b)])), (p 1, aC (kG κ) 60 fg)] 69 [(0, .ref (p 0)), (1, .int (nI 1000)), (2, .int (nI v))] [.int (-1), .int (nI (v * 10))]
                      exfalso; omega
                · show WW κ 0 0 [(p 0, .inr (3, [.ref (p 1), .ref (p 2), .int (nI P.1), .int (nI b)])), (p 1, aC (kG κ) 60 fg)] 56 [(0, .ref (p 0)), (1, .int (nI 1000)), (2, .int (nI v))] [.int (-1), .int (nI (v * 10))]
                  exfalso; omega
              · show WW κ 0 0 [(p 0, .inr (3, [.ref (p 1), .ref (p 2), .int (nI P.1), .int (nI b)])), (p 1, aC (kG κ) 60 fg)] 44 [(0, .ref (p 0)), (1, .int (nI 1000)), (2, .int (nI v))] [.int (-1)]
                refine w_iconst (nx := 45) C (-1) dX3_readNumber_44 rfl (by decide) ?_
                refine w_icmp_eq (tg := 84) (nx := 48) C dX3_readNumber_45 rfl rfl (fun _ => ?_) (fun q9 => absurd (by decide) q9)
                refine w_iload_n (nx := 85) C 2 dX3_readNumber_84 rfl rfl rfl ?_
                exact w_iret (ty := .int) C E dX3_readNumber_85 rfl rfl (Nat.le_refl _) (Nat.le_refl _) (Or.inl ⟨v, b, rfl, rfl, (hn.trans (congrArg some (nmL_stop (by omega)))), (by omega), (by omega)⟩)
      refine ww_lo [1, 2, 0] (lo' := [(0, .ref (p 0)), (1, .int (nI 1000)), (2, .int (nI (sg P a - 48)))]) rfl ?_
      exact LP_7 _ (sg P a - 48) 2 (a + 1) (nmP_some ⟨by omega, by omega⟩) (sg_lt (by omega)) (by first | assumption | omega) (Nat.lt_succ_self _)
    · refine w_iconst (nx := 14) C (-1) dX3_readNumber_13 rfl (by decide) ?_
      exact w_iret (ty := .int) C E dX3_readNumber_14 rfl rfl (Nat.le_refl _) (Nat.le_refl _) (Or.inr (⟨rfl, rfl, (nmP_none (by omega))⟩))
  · show WW κ 0 0 [(p 0, .inr (3, [.ref (p 1), .ref (p 2), .int (nI P.1), .int (nI a)])), (p 1, aC (kG κ) 60 fg)] 4 [(0, .ref (p 0)), (1, .int (nI 1000))] [.int (-1)]
    refine w_istore_n (nx := 5) (lo2 := [(2, .int (-1)), (0, .ref (p 0)), (1, .int (nI 1000))]) C dX3_readNumber_4 rfl rfl (by decide) rfl ?_
    refine w_iload_n (nx := 6) C 0 dX3_readNumber_5 rfl rfl rfl ?_
    refine w_iload_n (nx := 7) C 2 dX3_readNumber_6 rfl rfl rfl ?_
    refine w_callN (nx := 10) (wr := [(p 0, .inr (3, [.ref (p 1), .ref (p 2), .int (nI P.1), .int (nI a)])), (p 1, aC (kG κ) 60 fg)]) (rest := []) C ms_X8_isWithin (c_X8_isWithin _ _ (-1) 1000 (by first | assumption | omega)) dX3_readNumber_7 rfl wx_X3_66 (pm_sel [0, 1] 2 (by decide +kernel) rfl rfl) rfl rfl (Nat.le_of_ble_eq_true rfl) (Nat.le_of_ble_eq_true rfl) (Nat.le_of_ble_eq_true rfl) (Nat.zero_le _) (Nat.zero_le _) (fun v9 w9 R_25 => ?_)
    obtain ⟨rfl, rfl⟩ := R_25
    show WW κ 0 0 [(p 0, .inr (3, [.ref (p 1), .ref (p 2), .int (nI P.1), .int (nI a)])), (p 1, aC (kG κ) 60 fg)] 10 [(2, .int (-1)), (0, .ref (p 0)), (1, .int (nI 1000))] [.int (bC (∃ j, j < 1000 ∧ (-1) = nI j))]
    refine b_if_ne (tg := 15) (nx := 13) C dX3_readNumber_10 rfl rfl (fun h_26 => ?_) (fun h_26 => ?_)
    · obtain ⟨j9, hj9, e9⟩ := h_26
      exact absurd e9.symm (nI_nneg (by omega) (by decide))
    · refine w_iconst (nx := 14) C (-1) dX3_readNumber_13 rfl (by decide) ?_
      exact w_iret (ty := .int) C E dX3_readNumber_14 rfl rfl (Nat.le_refl _) (Nat.le_refl _) (Or.inr (⟨rfl, rfl, (nmP_none (by omega))⟩))
set_option maxHeartbeats 4000000 in
set_option maxRecDepth 100000 in
theorem c_X3_keep (l : Launch) (G : GG) (p : Nat → Nat) (z : Int32) (a : Int32) (lq : SQ) (fp : Nat → Int32) (kd : Nat) (t : Nat) (ky : Nat) (nm : Nat) (hQ : rQ fp lq) (hl : lq.1 < 13) (h1 : kd < 3) (h2 : t < 4) (h3 : ky < 100) (h4 : nm < 1000) : MT l G yX3_keep cX3_keep 6 none 2 0 0 [.ref (p 0), .int (nI kd), .int (nI t), .int (nI ky), .int (nI nm)] [(p 0, .inr (3, [.ref (p 1), .ref (p 2), .int z, .int a])), (p 2, .inr (4, [.int (nI 13), .int (nI 4), .ref (p 3), .int (nI lq.1)])), (p 3, aI G 52 fp)] (fun v9 ws9 => ∃ (fp2 : Nat → Int32), v9 = none ∧ ws9 = [(p 0, .inr (3, [.ref (p 1), .ref (p 2), .int z, .int a])), (p 2, .inr (4, [.int (nI 13), .int (nI 4), .ref (p 3), .int (nI (lq.1 + 1))])), (p 3, aI G 52 fp2)] ∧ rQ fp2 (psh lq (kd, t, ky, nm))) := by
  refine MT.of RX3 [(0, .ref (p 0)), (1, .int (nI kd)), (2, .int (nI t)), (3, .int (nI ky)), (4, .int (nI nm))] (by decide +kernel) rfl rfl (Nat.le_of_ble_eq_true rfl) (fun κ C E hl9 hG9 hnm9 => ?_)
  subst hl9; subst hG9
  refine w_aload_n (nx := 1) C 0 dX3_keep_0 rfl rfl rfl ?_
  refine w_get (nx := 4) C fc3 (.ref (p 2)) 0 1 dX3_keep_1 rfl wl_X3_20 rfl (by decide) rfl rfl ?_
  refine w_callV (nx := 7) (wr := [(p 0, .inr (3, [.ref (p 1), .ref (p 2), .int z, .int a]))]) (rest := []) C mi_X4_append (c_X4_append _ _ (p 2) (p 3) 13 4 lq.1 52 fp (by first | assumption | omega) (by first | assumption | omega) (by first | assumption | omega) (by first | assumption | omega) (by first | assumption | omega)) 0 dX3_keep_4 rfl wl_X3_74 rfl rfl rfl (pm_sel [1, 2, 0] 3 (by decide +kernel) rfl rfl) rfl rfl (Nat.le_of_ble_eq_true rfl) (Nat.le_of_ble_eq_true rfl) (Nat.le_of_ble_eq_true rfl) (Nat.zero_le _) (Nat.zero_le _) (fun v9 w9 R_1 => ?_)
  obtain ⟨rfl, rfl⟩ := R_1
  show WW κ 0 0 [(p 2, .inr (4, [.int (nI 13), .int (nI 4), .ref (p 3), .int (nI (lq.1 + 1))])), (p 3, aI (kG κ) 52 fp), (p 0, .inr (3, [.ref (p 1), .ref (p 2), .int z, .int a]))] 7 [(0, .ref (p 0)), (1, .int (nI kd)), (2, .int (nI t)), (3, .int (nI ky)), (4, .int (nI nm))] [.int (nI lq.1)]
  refine w_istore (nx := 9) (lo2 := [(5, .int (nI lq.1)), (0, .ref (p 0)), (1, .int (nI kd)), (2, .int (nI t)), (3, .int (nI ky)), (4, .int (nI nm))]) C dX3_keep_7 rfl (by decide) rfl ?_
  refine w_aload_n (nx := 10) C 1 dX3_keep_9 rfl rfl rfl ?_
  refine w_get (nx := 13) C fc3 (.ref (p 2)) 2 1 dX3_keep_10 rfl wl_X3_20 rfl (by decide) rfl rfl ?_
  refine w_iload (nx := 15) C 0 dX3_keep_13 rfl rfl ?_
  refine w_iconst (nx := 16) C (nI 0) dX3_keep_15 rfl (by decide) ?_
  refine w_iload_n (nx := 17) C 2 dX3_keep_16 rfl rfl rfl ?_
  refine w_callV (nx := 20) (wr := [(p 0, .inr (3, [.ref (p 1), .ref (p 2), .int z, .int a]))]) (rest := []) C mi_X4_change (c_X4_change _ _ (p 2) (p 3) 13 4 (lq.1 + 1) 52 fp lq.1 0 (nI kd) (by first | assumption | omega) (by first | assumption | omega) (by first | assumption | omega) (by first | assumption | omega) (by first | assumption | omega) (by first | assumption | omega) (by first | assumption | omega)) 0 dX3_keep_17 rfl wl_X3_77 rfl rfl rfl (pm_sel [0, 1, 2] 3 (by decide +kernel) rfl rfl) rfl rfl (Nat.le_of_ble_eq_true rfl) (Nat.le_of_ble_eq_true rfl) (Nat.le_of_ble_eq_true rfl) (Nat.zero_le _) (Nat.zero_le _) (fun v9 w9 R_2 => ?_)
  obtain ⟨rfl, rfl⟩ := R_2
  show WW κ 0 0 [(p 2, .inr (4, [.int (nI 13), .int (nI 4), .ref (p 3), .int (nI (lq.1 + 1))])), (p 3, aI (kG κ) 52 (upd fp (lq.1 * 4 + 0) (nI kd))), (p 0, .inr (3, [.ref (p 1), .ref (p 2), .int z, .int a]))] 20 [(5, .int (nI lq.1)), (0, .ref (p 0)), (1, .int (nI kd)), (2, .int (nI t)), (3, .int (nI ky)), (4, .int (nI nm))] []
  refine w_aload_n (nx := 21) C 1 dX3_keep_20 rfl rfl rfl ?_
  refine w_get (nx := 24) C fc3 (.ref (p 2)) 2 1 dX3_keep_21 rfl wl_X3_20 rfl (by decide) rfl rfl ?_
  refine w_iload (nx := 26) C 0 dX3_keep_24 rfl rfl ?_
  refine w_iconst (nx := 27) C (nI 1) dX3_keep_26 rfl (by decide) ?_
  refine w_iload_n (nx := 28) C 3 dX3_keep_27 rfl rfl rfl ?_
  refine w_callV (nx := 31) (wr := [(p 0, .inr (3, [.ref (p 1), .ref (p 2), .int z, .int a]))]) (rest := []) C mi_X4_change (c_X4_change _ _ (p 2) (p 3) 13 4 (lq.1 + 1) 52 (upd fp (lq.1 * 4 + 0) (nI kd)) lq.1 1 (nI t) (by first | assumption | omega) (by first | assumption | omega) (by first | assumption | omega) (by first | assumption | omega) (by first | assumption | omega) (by first | assumption | omega) (by first | assumption | omega)) 0 dX3_keep_28 rfl wl_X3_77 rfl rfl rfl (pm_sel [0, 1, 2] 3 (by decide +kernel) rfl rfl) rfl rfl (Nat.le_of_ble_eq_true rfl) (Nat.le_of_ble_eq_true rfl) (Nat.le_of_ble_eq_true rfl) (Nat.zero_le _) (Nat.zero_le _) (fun v9 w9 R_3 => ?_)
  obtain ⟨rfl, rfl⟩ := R_3
  show WW κ 0 0 [(p 2, .inr (4, [.int (nI 13), .int (nI 4), .ref (p 3), .int (nI (lq.1 + 1))])), (p 3, aI (kG κ) 52 (upd (upd fp (lq.1 * 4 + 0) (nI kd)) (lq.1 * 4 + 1) (nI t))), (p 0, .inr (3, [.ref (p 1), .ref (p 2), .int z, .int a]))] 31 [(5, .int (nI lq.1)), (0, .ref (p 0)), (1, .int (nI kd)), (2, .int (nI t)), (3, .int (nI ky)), (4, .int (nI nm))] []
  refine w_aload_n (nx := 32) C 1 dX3_keep_31 rfl rfl rfl ?_
  refine w_get (nx := 35) C fc3 (.ref (p 2)) 2 1 dX3_keep_32 rfl wl_X3_20 rfl (by decide) rfl rfl ?_
  refine w_iload (nx := 37) C 0 dX3_keep_35 rfl rfl ?_
  refine w_iconst (nx := 38) C (nI 2) dX3_keep_37 rfl (by decide) ?_
  refine w_iload_n (nx := 39) C 4 dX3_keep_38 rfl rfl rfl ?_
  refine w_callV (nx := 42) (wr := [(p 0, .inr (3, [.ref (p 1), .ref (p 2), .int z, .int a]))]) (rest := []) C mi_X4_change (c_X4_change _ _ (p 2) (p 3) 13 4 (lq.1 + 1) 52 (upd (upd fp (lq.1 * 4 + 0) (nI kd)) (lq.1 * 4 + 1) (nI t)) lq.1 2 (nI ky) (by first | assumption | omega) (by first | assumption | omega) (by first | assumption | omega) (by first | assumption | omega) (by first | assumption | omega) (by first | assumption | omega) (by first | assumption | omega)) 0 dX3_keep_39 rfl wl_X3_77 rfl rfl rfl (pm_sel [0, 1, 2] 3 (by decide +kernel) rfl rfl) rfl rfl (Nat.le_of_ble_eq_true rfl) (Nat.le_of_ble_eq_true rfl) (Nat.le_of_ble_eq_true rfl) (Nat.zero_le _) (Nat.zero_le _) (fun v9 w9 R_4 => ?_)
  obtain ⟨rfl, rfl⟩ := R_4
  show WW κ 0 0 [(p 2, .inr (4, [.int (nI 13), .int (nI 4), .ref (p 3), .int (nI (lq.1 + 1))])), (p 3, aI (kG κ) 52 (upd (upd (upd fp (lq.1 * 4 + 0) (nI kd)) (lq.1 * 4 + 1) (nI t)) (lq.1 * 4 + 2) (nI ky))), (p 0, .inr (3, [.ref (p 1), .ref (p 2), .int z, .int a]))] 42 [(5, .int (nI lq.1)), (0, .ref (p 0)), (1, .int (nI kd)), (2, .int (nI t)), (3, .int (nI ky)), (4, .int (nI nm))] []
  refine w_aload_n (nx := 43) C 1 dX3_keep_42 rfl rfl rfl ?_
  refine w_get (nx := 46) C fc3 (.ref (p 2)) 2 1 dX3_keep_43 rfl wl_X3_20 rfl (by decide) rfl rfl ?_
  refine w_iload (nx := 48) C 0 dX3_keep_46 rfl rfl ?_
  refine w_iconst (nx := 49) C (nI 3) dX3_keep_48 rfl (by decide) ?_
  refine w_iload (nx := 51) C 5 dX3_keep_49 rfl rfl ?_
  refine w_callV (nx := 54) (wr := [(p 0, .inr (3, [.ref (p 1), .ref (p 2), .int z, .int a]))]) (rest := []) C mi_X4_change (c_X4_change _ _ (p 2) (p 3) 13 4 (lq.1 + 1) 52 (upd (upd (upd fp (lq.1 * 4 + 0) (nI kd)) (lq.1 * 4 + 1) (nI t)) (lq.1 * 4 + 2) (nI ky)) lq.1 3 (nI nm) (by first | assumption | omega) (by first | assumption | omega) (by first | assumption | omega) (by first | assumption | omega) (by first | assumption | omega) (by first | assumption | omega) (by first | assumption | omega)) 0 dX3_keep_51 rfl wl_X3_77 rfl rfl rfl (pm_sel [0, 1, 2] 3 (by decide +kernel) rfl rfl) rfl rfl (Nat.le_of_ble_eq_true rfl) (Nat.le_of_ble_eq_true rfl) (Nat.le_of_ble_eq_true rfl) (Nat.zero_le _) (Nat.zero_le _) (fun v9 w9 R_5 => ?_)
  obtain ⟨rfl, rfl⟩ := R_5
  show WW κ 0 0 [(p 2, .inr (4, [.int (nI 13), .int (nI 4), .ref (p 3), .int (nI (lq.1 + 1))])), (p 3, aI (kG κ) 52 (upd (upd (upd (upd fp (lq.1 * 4 + 0) (nI kd)) (lq.1 * 4 + 1) (nI t)) (lq.1 * 4 + 2) (nI ky)) (lq.1 * 4 + 3) (nI nm))), (p 0, .inr (3, [.ref (p 1), .ref (p 2), .int z, .int a]))] 54 [(5, .int (nI lq.1)), (0, .ref (p 0)), (1, .int (nI kd)), (2, .int (nI t)), (3, .int (nI ky)), (4, .int (nI nm))] []
  refine ww_sel (l := [(p 0, .inr (3, [.ref (p 1), .ref (p 2), .int z, .int a])), (p 2, .inr (4, [.int (nI 13), .int (nI 4), .ref (p 3), .int (nI (lq.1 + 1))])), (p 3, aI (kG κ) 52 (upd (upd (upd (upd fp (lq.1 * 4 + 0) (nI kd)) (lq.1 * 4 + 1) (nI t)) (lq.1 * 4 + 2) (nI ky)) (lq.1 * 4 + 3) (nI nm)))]) (pm_sel [2, 0, 1] 3 (by decide +kernel) rfl rfl) ?_
  exact w_vret C E dX3_keep_54 rfl (Nat.le_refl _) (Nat.le_refl _) ⟨_, rfl, rfl, (rQ_psh hQ h1 h2 h3 h4)⟩
set_option maxHeartbeats 4000000 in
set_option maxRecDepth 100000 in
theorem c_X3_readStatement (l : Launch) (G : GG) (p : Nat → Nat) (P : PD) (fg : Nat → Int32) (a : Nat) (lq : SQ) (fp : Nat → Int32) (hP : rP fg P) (hw : wfP P) (ha : a ≤ 60) (hQ : rQ fp lq) (hl : lq.1 < 13) : MT l G yX3_readStatement cX3_readStatement 5 (some .boolean) 5 0 0 [.ref (p 0)] [(p 0, .inr (3, [.ref (p 1), .ref (p 2), .int (nI P.1), .int (nI a)])), (p 1, aC G 60 fg), (p 2, .inr (4, [.int (nI 13), .int (nI 4), .ref (p 3), .int (nI lq.1)])), (p 3, aI G 52 fp)] (fun v9 ws9 => (∃ (x : ST4) (a2 : Nat) (fp2 : Nat → Int32), v9 = some (.int (nI 1)) ∧ ws9 = [(p 0, .inr (3, [.ref (p 1), .ref (p 2), .int (nI P.1), .int (nI a2)])), (p 1, aC G 60 fg), (p 2, .inr (4, [.int (nI 13), .int (nI 4), .ref (p 3), .int (nI ((psh lq x).1))])), (p 3, aI G 52 fp2)] ∧ stmP P a = (a2, some x) ∧ a2 ≤ 60 ∧ rQ fp2 (psh lq x)) ∨ (∃ (a2 : Nat), v9 = some (.int (nI 0)) ∧ ws9 = [(p 0, .inr (3, [.ref (p 1), .ref (p 2), .int (nI P.1), .int (nI a2)])), (p 1, aC G 60 fg), (p 2, .inr (4, [.int (nI 13), .int (nI 4), .ref (p 3), .int (nI lq.1)])), (p 3, aI G 52 fp)] ∧ stmP P a = (a2, none) ∧ a2 ≤ 60)) := by
  refine MT.of RX3 [(0, .ref (p 0))] (by decide +kernel) rfl rfl (Nat.le_of_ble_eq_true rfl) (fun κ C E hl9 hG9 hnm9 => ?_)
  subst hl9; subst hG9
  have hz9 := hw.1
  refine w_aload_n (nx := 1) C 0 dX3_readStatement_0 rfl rfl rfl ?_
  refine w_callV (nx := 4) (wr := [(p 2, .inr (4, [.int (nI 13), .int (nI 4), .ref (p 3), .int (nI lq.1)])), (p 3, aI (kG κ) 52 fp)]) (rest := []) C mi_X3_readKind (c_X3_readKind _ _ p P fg a (by first | assumption | omega) (by first | assumption | omega) (by first | assumption | omega)) 0 dX3_readStatement_1 rfl wl_X3_52 rfl rfl rfl (pm_sel [0, 1, 2, 3] 4 (by decide +kernel) rfl rfl) rfl rfl (Nat.le_of_ble_eq_true rfl) (Nat.le_of_ble_eq_true rfl) (Nat.le_of_ble_eq_true rfl) (Nat.zero_le _) (Nat.zero_le _) (fun v9 w9 R_1 => ?_)
  rcases R_1 with ⟨kd1, rfl, rfl, h11, h21⟩ | ⟨rfl, rfl, h11⟩
  · show WW κ 0 0 [(p 0, .inr (3, [.ref (p 1), .ref (p 2), .int (nI P.1), .int (nI (a + 1))])), (p 1, aC (kG κ) 60 fg), (p 2, .inr (4, [.int (nI 13), .int (nI 4), .ref (p 3), .int (nI lq.1)])), (p 3, aI (kG κ) 52 fp)] 4 [(0, .ref (p 0))] [.int (nI kd1)]
    refine w_istore_n (nx := 5) (lo2 := [(1, .int (nI kd1)), (0, .ref (p 0))]) C dX3_readStatement_4 rfl rfl (by decide) rfl ?_
    refine w_iload_n (nx := 6) C 0 dX3_readStatement_5 rfl rfl rfl ?_
    refine w_iconst (nx := 7) C (-1) dX3_readStatement_6 rfl (by decide) ?_
    refine w_icmp_ne (tg := 12) (nx := 10) C dX3_readStatement_7 rfl rfl (fun _ => ?_) (fun q9 => absurd q9 (nI_nneg (by omega) (by decide)))
    refine w_aload_n (nx := 13) C 1 dX3_readStatement_12 rfl rfl rfl ?_
    refine w_iconst (nx := 14) C (nI 4) dX3_readStatement_13 rfl (by decide) ?_
    refine w_callV (nx := 17) (wr := [(p 2, .inr (4, [.int (nI 13), .int (nI 4), .ref (p 3), .int (nI lq.1)])), (p 3, aI (kG κ) 52 fp)]) (rest := []) C mi_X3_readNumber (c_X3_readNumber_4 _ _ p P fg (a + 1) (by first | assumption | omega) (by first | assumption | omega) (by first | assumption | omega)) 0 dX3_readStatement_14 rfl wl_X3_55 rfl rfl rfl (pm_sel [0, 1, 2, 3] 4 (by decide +kernel) rfl rfl) rfl rfl (Nat.le_of_ble_eq_true rfl) (Nat.le_of_ble_eq_true rfl) (Nat.le_of_ble_eq_true rfl) (Nat.zero_le _) (Nat.zero_le _) (fun v9 w9 R_3 => ?_)
    rcases R_3 with ⟨v14, a214, rfl, rfl, h114, h214, h314⟩ | ⟨rfl, rfl, h114⟩
    · show WW κ 0 0 [(p 0, .inr (3, [.ref (p 1), .ref (p 2), .int (nI P.1), .int (nI a214)])), (p 1, aC (kG κ) 60 fg), (p 2, .inr (4, [.int (nI 13), .int (nI 4), .ref (p 3), .int (nI lq.1)])), (p 3, aI (kG κ) 52 fp)] 17 [(1, .int (nI kd1)), (0, .ref (p 0))] [.int (nI v14)]
      refine w_istore_n (nx := 18) (lo2 := [(2, .int (nI v14)), (1, .int (nI kd1)), (0, .ref (p 0))]) C dX3_readStatement_17 rfl rfl (by decide) rfl ?_
      refine w_iload_n (nx := 19) C 0 dX3_readStatement_18 rfl rfl rfl ?_
      refine w_iconst (nx := 20) C (-1) dX3_readStatement_19 rfl (by decide) ?_
      refine w_icmp_eq (tg := 32) (nx := 23) C dX3_readStatement_20 rfl rfl (fun q9 => absurd q9 (nI_nneg (by omega) (by decide))) (fun _ => ?_)
      refine w_aload_n (nx := 24) C 2 dX3_readStatement_23 rfl rfl rfl ?_
      refine w_bipush (nx := 26) C (nI 46) dX3_readStatement_24 rfl (by decide) ?_
      refine w_callV (nx := 29) (wr := [(p 2, .inr (4, [.int (nI 13), .int (nI 4), .ref (p 3), .int (nI lq.1)])), (p 3, aI (kG κ) 52 fp)]) (rest := []) C mi_X3_accepts (c_X3_accepts _ _ p P fg a214 46 (by first | assumption | omega) (by first | assumption | omega) (by first | assumption | omega) (by first | assumption | omega) (by first | assumption | omega)) 0 dX3_readStatement_26 rfl wl_X3_48 rfl rfl rfl (pm_sel [0, 1, 2, 3] 4 (by decide +kernel) rfl rfl) rfl rfl (Nat.le_of_ble_eq_true rfl) (Nat.le_of_ble_eq_true rfl) (Nat.le_of_ble_eq_true rfl) (Nat.zero_le _) (Nat.zero_le _) (fun v9 w9 R_5 => ?_)
      rcases R_5 with ⟨rfl, rfl, h126, h226⟩ | ⟨rfl, rfl, h126⟩
      · show WW κ 0 0 [(p 0, .inr (3, [.ref (p 1), .ref (p 2), .int (nI P.1), .int (nI (a214 + 1))])), (p 1, aC (kG κ) 60 fg), (p 2, .inr (4, [.int (nI 13), .int (nI 4), .ref (p 3), .int (nI lq.1)])), (p 3, aI (kG κ) 52 fp)] 29 [(2, .int (nI v14)), (1, .int (nI kd1)), (0, .ref (p 0))] [.int (nI 1)]
        refine w_if_ne (tg := 34) (nx := 32) C dX3_readStatement_29 rfl rfl (fun _ => ?_) (fun q9 => absurd q9 (by decide))
        refine w_aload_n (nx := 35) C 2 dX3_readStatement_34 rfl rfl rfl ?_
        refine w_bipush (nx := 37) C (nI 100) dX3_readStatement_35 rfl (by decide) ?_
        refine w_callV (nx := 40) (wr := [(p 2, .inr (4, [.int (nI 13), .int (nI 4), .ref (p 3), .int (nI lq.1)])), (p 3, aI (kG κ) 52 fp)]) (rest := []) C mi_X3_readNumber (c_X3_readNumber_100 _ _ p P fg (a214 + 1) (by first | assumption | omega) (by first | assumption | omega) (by first | assumption | omega)) 0 dX3_readStatement_37 rfl wl_X3_55 rfl rfl rfl (pm_sel [0, 1, 2, 3] 4 (by decide +kernel) rfl rfl) rfl rfl (Nat.le_of_ble_eq_true rfl) (Nat.le_of_ble_eq_true rfl) (Nat.le_of_ble_eq_true rfl) (Nat.zero_le _) (Nat.zero_le _) (fun v9 w9 R_7 => ?_)
        rcases R_7 with ⟨v37, a237, rfl, rfl, h137, h237, h337⟩ | ⟨rfl, rfl, h137⟩
        · show WW κ 0 0 [(p 0, .inr (3, [.ref (p 1), .ref (p 2), .int (nI P.1), .int (nI a237)])), (p 1, aC (kG κ) 60 fg), (p 2, .inr (4, [.int (nI 13), .int (nI 4), .ref (p 3), .int (nI lq.1)])), (p 3, aI (kG κ) 52 fp)] 40 [(2, .int (nI v14)), (1, .int (nI kd1)), (0, .ref (p 0))] [.int (nI v37)]
          refine w_istore_n (nx := 41) (lo2 := [(3, .int (nI v37)), (2, .int (nI v14)), (1, .int (nI kd1)), (0, .ref (p 0))]) C dX3_readStatement_40 rfl rfl (by decide) rfl ?_
          refine w_iload_n (nx := 42) C 0 dX3_readStatement_41 rfl rfl rfl ?_
          refine w_iconst (nx := 43) C (-1) dX3_readStatement_42 rfl (by decide) ?_
          refine w_icmp_ne (tg := 48) (nx := 46) C dX3_readStatement_43 rfl rfl (fun _ => ?_) (fun q9 => absurd q9 (nI_nneg (by omega) (by decide)))
          refine w_iconst (nx := 49) C (nI 0) dX3_readStatement_48 rfl (by decide) ?_
          refine w_istore (nx := 51) (lo2 := [(4, .int (nI 0)), (3, .int (nI v37)), (2, .int (nI v14)), (1, .int (nI kd1)), (0, .ref (p 0))]) C dX3_readStatement_49 rfl (by decide) rfl ?_
          refine w_iload_n (nx := 52) C 3 dX3_readStatement_51 rfl rfl rfl ?_
          refine w_iconst (nx := 53) C (nI 2) dX3_readStatement_52 rfl (by decide) ?_
          refine n_icmp_eq (tg := 87) (nx := 56) C dX3_readStatement_53 rfl rfl (by omega) (by omega) (fun h_9 => ?_) (fun h_9 => ?_)
          · refine w_iload (nx := 89) C 0 dX3_readStatement_87 rfl rfl ?_
            refine w_iconst (nx := 90) C (-1) dX3_readStatement_89 rfl (by decide) ?_
            refine w_icmp_ne (tg := 95) (nx := 93) C dX3_readStatement_90 rfl rfl (fun _ => ?_) (fun q9 => absurd q9 (nI_nneg (by omega) (by decide)))
            refine w_aload_n (nx := 96) C 4 dX3_readStatement_95 rfl rfl rfl ?_
            refine w_iload_n (nx := 97) C 3 dX3_readStatement_96 rfl rfl rfl ?_
            refine w_iload_n (nx := 98) C 2 dX3_readStatement_97 rfl rfl rfl ?_
            refine w_iload_n (nx := 99) C 1 dX3_readStatement_98 rfl rfl rfl ?_
            refine w_iload (nx := 101) C 0 dX3_readStatement_99 rfl rfl ?_
            refine w_callV (nx := 104) (wr := [(p 1, aC (kG κ) 60 fg)]) (rest := []) C mi_X3_keep (c_X3_keep _ _ p (nI P.1) (nI a237) lq fp kd1 v14 v37 0 (by first | assumption | omega) (by first | assumption | omega) (by first | assumption | omega) (by first | assumption | omega) (by first | assumption | omega) (by first | assumption | omega)) 0 dX3_readStatement_101 rfl wl_X3_59 rfl rfl rfl (pm_sel [0, 2, 3, 1] 4 (by decide +kernel) rfl rfl) rfl rfl (Nat.le_of_ble_eq_true rfl) (Nat.le_of_ble_eq_true rfl) (Nat.le_of_ble_eq_true rfl) (Nat.zero_le _) (Nat.zero_le _) (fun v9 w9 R_11 => ?_)
            obtain ⟨fp2_12, rfl, rfl, hQ2_13⟩ := R_11
            show WW κ 0 0 [(p 0, .inr (3, [.ref (p 1), .ref (p 2), .int (nI P.1), .int (nI a237)])), (p 2, .inr (4, [.int (nI 13), .int (nI 4), .ref (p 3), .int (nI (lq.1 + 1))])), (p 3, aI (kG κ) 52 fp2_12), (p 1, aC (kG κ) 60 fg)] 104 [(4, .int (nI 0)), (3, .int (nI v37)), (2, .int (nI v14)), (1, .int (nI kd1)), (0, .ref (p 0))] []
            refine w_iconst (nx := 105) C (nI 1) dX3_readStatement_104 rfl (by decide) ?_
            refine ww_sel (l := [(p 0, .inr (3, [.ref (p 1), .ref (p 2), .int (nI P.1), .int (nI a237)])), (p 1, aC (kG κ) 60 fg), (p 2, .inr (4, [.int (nI 13), .int (nI 4), .ref (p 3), .int (nI (lq.1 + 1))])), (p 3, aI (kG κ) 52 fp2_12)]) (pm_sel [0, 3, 1, 2] 4 (by decide +kernel) rfl rfl) ?_
            exact w_iret (ty := .boolean) C E dX3_readStatement_105 rfl rfl (Nat.le_refl _) (Nat.le_refl _) (Or.inl ⟨(kd1, v14, v37, 0), a237, _, rfl, rfl, ((stm_5 (by omega) h114 h126 h137).trans (by rw [show kd1 = 2 by omega])), (by first | assumption | rfl | omega), (by first | assumption | rfl | omega)⟩)
          · refine w_aload_n (nx := 57) C 4 dX3_readStatement_56 rfl rfl rfl ?_
            refine w_iload_n (nx := 58) C 3 dX3_readStatement_57 rfl rfl rfl ?_
            refine n_if_ne (tg := 66) (nx := 61) C dX3_readStatement_58 rfl rfl (by omega) (fun h_14 => ?_) (fun h_14 => ?_)
            · refine w_bipush (nx := 68) C (nI 43) dX3_readStatement_66 rfl (by decide) ?_
              refine w_callV (nx := 71) (wr := [(p 2, .inr (4, [.int (nI 13), .int (nI 4), .ref (p 3), .int (nI lq.1)])), (p 3, aI (kG κ) 52 fp)]) (rest := []) C mi_X3_accepts (c_X3_accepts _ _ p P fg a237 43 (by first | assumption | omega) (by first | assumption | omega) (by first | assumption | omega) (by first | assumption | omega) (by first | assumption | omega)) 0 dX3_readStatement_68 rfl wl_X3_48 rfl rfl rfl (pm_sel [0, 1, 2, 3] 4 (by decide +kernel) rfl rfl) rfl rfl (Nat.le_of_ble_eq_true rfl) (Nat.le_of_ble_eq_true rfl) (Nat.le_of_ble_eq_true rfl) (Nat.zero_le _) (Nat.zero_le _) (fun v9 w9 R_15 => ?_)
              rcases R_15 with ⟨rfl, rfl, h168, h268⟩ | ⟨rfl, rfl, h168⟩
              · show WW κ 0 0 [(p 0, .inr (3, [.ref (p 1), .ref (p 2), .int (nI P.1), .int (nI (a237 + 1))])), (p 1, aC (kG κ) 60 fg), (p 2, .inr (4, [.int (nI 13), .int (nI 4), .ref (p 3), .int (nI lq.1)])), (p 3, aI (kG κ) 52 fp)] 71 [(4, .int (nI 0)), (3, .int (nI v37)), (2, .int (nI v14)), (1, .int (nI kd1)), (0, .ref (p 0))] [.int (nI 1)]
                refine w_if_eq (tg := 84) (nx := 74) C dX3_readStatement_71 rfl rfl (fun q9 => absurd q9 (by decide)) (fun _ => ?_)
                refine w_aload_n (nx := 75) C 4 dX3_readStatement_74 rfl rfl rfl ?_
                refine w_sipush (nx := 78) C (nI 1000) dX3_readStatement_75 rfl (by decide) ?_
                refine w_callV (nx := 81) (wr := [(p 2, .inr (4, [.int (nI 13), .int (nI 4), .ref (p 3), .int (nI lq.1)])), (p 3, aI (kG κ) 52 fp)]) (rest := []) C mi_X3_readNumber (c_X3_readNumber_1000 _ _ p P fg (a237 + 1) (by first | assumption | omega) (by first | assumption | omega) (by first | assumption | omega)) 0 dX3_readStatement_78 rfl wl_X3_55 rfl rfl rfl (pm_sel [0, 1, 2, 3] 4 (by decide +kernel) rfl rfl) rfl rfl (Nat.le_of_ble_eq_true rfl) (Nat.le_of_ble_eq_true rfl) (Nat.le_of_ble_eq_true rfl) (Nat.zero_le _) (Nat.zero_le _) (fun v9 w9 R_17 => ?_)
                rcases R_17 with ⟨v78, a278, rfl, rfl, h178, h278, h378⟩ | ⟨rfl, rfl, h178⟩
                · show WW κ 0 0 [(p 0, .inr (3, [.ref (p 1), .ref (p 2), .int (nI P.1), .int (nI a278)])), (p 1, aC (kG κ) 60 fg), (p 2, .inr (4, [.int (nI 13), .int (nI 4), .ref (p 3), .int (nI lq.1)])), (p 3, aI (kG κ) 52 fp)] 81 [(4, .int (nI 0)), (3, .int (nI v37)), (2, .int (nI v14)), (1, .int (nI kd1)), (0, .ref (p 0))] [.int (nI v78)]
                  refine w_goto (nx := 85) C dX3_readStatement_81 rfl ?_
                  refine w_istore (nx := 87) (lo2 := [(4, .int (nI v78)), (3, .int (nI v37)), (2, .int (nI v14)), (1, .int (nI kd1)), (0, .ref (p 0))]) C dX3_readStatement_85 rfl (by decide) rfl ?_
                  refine w_iload (nx := 89) C 0 dX3_readStatement_87 rfl rfl ?_
                  refine w_iconst (nx := 90) C (-1) dX3_readStatement_89 rfl (by decide) ?_
                  refine w_icmp_ne (tg := 95) (nx := 93) C dX3_readStatement_90 rfl rfl (fun _ => ?_) (fun q9 => absurd q9 (nI_nneg (by omega) (by decide)))
                  refine w_aload_n (nx := 96) C 4 dX3_readStatement_95 rfl rfl rfl ?_
                  refine w_iload_n (nx := 97) C 3 dX3_readStatement_96 rfl rfl rfl ?_
                  refine w_iload_n (nx := 98) C 2 dX3_readStatement_97 rfl rfl rfl ?_
                  refine w_iload_n (nx := 99) C 1 dX3_readStatement_98 rfl rfl rfl ?_
                  refine w_iload (nx := 101) C 0 dX3_readStatement_99 rfl rfl ?_
                  refine w_callV (nx := 104) (wr := [(p 1, aC (kG κ) 60 fg)]) (rest := []) C mi_X3_keep (c_X3_keep _ _ p (nI P.1) (nI a278) lq fp kd1 v14 v37 v78 (by first | assumption | omega) (by first | assumption | omega) (by first | assumption | omega) (by first | assumption | omega) (by first | assumption | omega) (by first | assumption | omega)) 0 dX3_readStatement_101 rfl wl_X3_59 rfl rfl rfl (pm_sel [0, 2, 3, 1] 4 (by decide +kernel) rfl rfl) rfl rfl (Nat.le_of_ble_eq_true rfl) (Nat.le_of_ble_eq_true rfl) (Nat.le_of_ble_eq_true rfl) (Nat.zero_le _) (Nat.zero_le _) (fun v9 w9 R_19 => ?_)
                  obtain ⟨fp2_20, rfl, rfl, hQ2_21⟩ := R_19
                  show WW κ 0 0 [(p 0, .inr (3, [.ref (p 1), .ref (p 2), .int (nI P.1), .int (nI a278)])), (p 2, .inr (4, [.int (nI 13), .int (nI 4), .ref (p 3), .int (nI (lq.1 + 1))])), (p 3, aI (kG κ) 52 fp2_20), (p 1, aC (kG κ) 60 fg)] 104 [(4, .int (nI v78)), (3, .int (nI v37)), (2, .int (nI v14)), (1, .int (nI kd1)), (0, .ref (p 0))] []
                  refine w_iconst (nx := 105) C (nI 1) dX3_readStatement_104 rfl (by decide) ?_
                  refine ww_sel (l := [(p 0, .inr (3, [.ref (p 1), .ref (p 2), .int (nI P.1), .int (nI a278)])), (p 1, aC (kG κ) 60 fg), (p 2, .inr (4, [.int (nI 13), .int (nI 4), .ref (p 3), .int (nI (lq.1 + 1))])), (p 3, aI (kG κ) 52 fp2_20)]) (pm_sel [0, 3, 1, 2] 4 (by decide +kernel) rfl rfl) ?_
                  exact w_iret (ty := .boolean) C E dX3_readStatement_105 rfl rfl (Nat.le_refl _) (Nat.le_refl _) (Or.inl ⟨(kd1, v14, v37, v78), a278, _, rfl, rfl, ((stm_8 (by omega) h114 h126 h137 (by split <;> omega) h178).trans (by rw [show (if sg P a = 108 then 0 else 1) = kd1 by split <;> omega])), (by first | assumption | rfl | omega), (by first | assumption | rfl | omega)⟩)
                · show WW κ 0 0 [(p 0, .inr (3, [.ref (p 1), .ref (p 2), .int (nI P.1), .int (nI (a237 + 1))])), (p 1, aC (kG κ) 60 fg), (p 2, .inr (4, [.int (nI 13), .int (nI 4), .ref (p 3), .int (nI lq.1)])), (p 3, aI (kG κ) 52 fp)] 81 [(4, .int (nI 0)), (3, .int (nI v37)), (2, .int (nI v14)), (1, .int (nI kd1)), (0, .ref (p 0))] [.int (-1)]
                  refine w_goto (nx := 85) C dX3_readStatement_81 rfl ?_
                  refine w_istore (nx := 87) (lo2 := [(4, .int (-1)), (3, .int (nI v37)), (2, .int (nI v14)), (1, .int (nI kd1)), (0, .ref (p 0))]) C dX3_readStatement_85 rfl (by decide) rfl ?_
                  refine w_iload (nx := 89) C 0 dX3_readStatement_87 rfl rfl ?_
                  refine w_iconst (nx := 90) C (-1) dX3_readStatement_89 rfl (by decide) ?_
                  refine w_icmp_ne (tg := 95) (nx := 93) C dX3_readStatement_90 rfl rfl (fun q9 => absurd (by decide) q9) (fun _ => ?_)
                  refine w_iconst (nx := 94) C (nI 0) dX3_readStatement_93 rfl (by decide) ?_
                  exact w_iret (ty := .boolean) C E dX3_readStatement_94 rfl rfl (Nat.le_refl _) (Nat.le_refl _) (Or.inr (⟨(a237 + 1), rfl, rfl, (stm_7 (by omega) h114 h126 h137 (by split <;> omega) h178), (by first | assumption | rfl | omega)⟩))
              · show WW κ 0 0 [(p 0, .inr (3, [.ref (p 1), .ref (p 2), .int (nI P.1), .int (nI a237)])), (p 1, aC (kG κ) 60 fg), (p 2, .inr (4, [.int (nI 13), .int (nI 4), .ref (p 3), .int (nI lq.1)])), (p 3, aI (kG κ) 52 fp)] 71 [(4, .int (nI 0)), (3, .int (nI v37)), (2, .int (nI v14)), (1, .int (nI kd1)), (0, .ref (p 0))] [.int (nI 0)]
                refine w_if_eq (tg := 84) (nx := 74) C dX3_readStatement_71 rfl rfl (fun _ => ?_) (fun q9 => absurd (by decide) q9)
                refine w_iconst (nx := 85) C (-1) dX3_readStatement_84 rfl (by decide) ?_
                refine w_istore (nx := 87) (lo2 := [(4, .int (-1)), (3, .int (nI v37)), (2, .int (nI v14)), (1, .int (nI kd1)), (0, .ref (p 0))]) C dX3_readStatement_85 rfl (by decide) rfl ?_
                refine w_iload (nx := 89) C 0 dX3_readStatement_87 rfl rfl ?_
                refine w_iconst (nx := 90) C (-1) dX3_readStatement_89 rfl (by decide) ?_
                refine w_icmp_ne (tg := 95) (nx := 93) C dX3_readStatement_90 rfl rfl (fun q9 => absurd (by decide) q9) (fun _ => ?_)
                refine w_iconst (nx := 94) C (nI 0) dX3_readStatement_93 rfl (by decide) ?_
                exact w_iret (ty := .boolean) C E dX3_readStatement_94 rfl rfl (Nat.le_refl _) (Nat.le_refl _) (Or.inr (⟨a237, rfl, rfl, (stm_6 (by omega) h114 h126 h137 (by split <;> omega)), (by first | assumption | rfl | omega)⟩))
            · refine w_bipush (nx := 63) C (nI 61) dX3_readStatement_61 rfl (by decide) ?_
              refine w_goto (nx := 68) C dX3_readStatement_63 rfl ?_
              refine w_callV (nx := 71) (wr := [(p 2, .inr (4, [.int (nI 13), .int (nI 4), .ref (p 3), .int (nI lq.1)])), (p 3, aI (kG κ) 52 fp)]) (rest := []) C mi_X3_accepts (c_X3_accepts _ _ p P fg a237 61 (by first | assumption | omega) (by first | assumption | omega) (by first | assumption | omega) (by first | assumption | omega) (by first | assumption | omega)) 0 dX3_readStatement_68 rfl wl_X3_48 rfl rfl rfl (pm_sel [0, 1, 2, 3] 4 (by decide +kernel) rfl rfl) rfl rfl (Nat.le_of_ble_eq_true rfl) (Nat.le_of_ble_eq_true rfl) (Nat.le_of_ble_eq_true rfl) (Nat.zero_le _) (Nat.zero_le _) (fun v9 w9 R_25 => ?_)
              rcases R_25 with ⟨rfl, rfl, h168, h268⟩ | ⟨rfl, rfl, h168⟩
              · show WW κ 0 0 [(p 0, .inr (3, [.ref (p 1), .ref (p 2), .int (nI P.1), .int (nI (a237 + 1))])), (p 1, aC (kG κ) 60 fg), (p 2, .inr (4, [.int (nI 13), .int (nI 4), .ref (p 3), .int (nI lq.1)])), (p 3, aI (kG κ) 52 fp)] 71 [(4, .int (nI 0)), (3, .int (nI v37)), (2, .int (nI v14)), (1, .int (nI kd1)), (0, .ref (p 0))] [.int (nI 1)]
                refine w_if_eq (tg := 84) (nx := 74) C dX3_readStatement_71 rfl rfl (fun q9 => absurd q9 (by decide)) (fun _ => ?_)
                refine w_aload_n (nx := 75) C 4 dX3_readStatement_74 rfl rfl rfl ?_
                refine w_sipush (nx := 78) C (nI 1000) dX3_readStatement_75 rfl (by decide) ?_
                refine w_callV (nx := 81) (wr := [(p 2, .inr (4, [.int (nI 13), .int (nI 4), .ref (p 3), .int (nI lq.1)])), (p 3, aI (kG κ) 52 fp)]) (rest := []) C mi_X3_readNumber (c_X3_readNumber_1000 _ _ p P fg (a237 + 1) (by first | assumption | omega) (by first | assumption | omega) (by first | assumption | omega)) 0 dX3_readStatement_78 rfl wl_X3_55 rfl rfl rfl (pm_sel [0, 1, 2, 3] 4 (by decide +kernel) rfl rfl) rfl rfl (Nat.le_of_ble_eq_true rfl) (Nat.le_of_ble_eq_true rfl) (Nat.le_of_ble_eq_true rfl) (Nat.zero_le _) (Nat.zero_le _) (fun v9 w9 R_27 => ?_)
                rcases R_27 with ⟨v78, a278, rfl, rfl, h178, h278, h378⟩ | ⟨rfl, rfl, h178⟩
                · show WW κ 0 0 [(p 0, .inr (3, [.ref (p 1), .ref (p 2), .int (nI P.1), .int (nI a278)])), (p 1, aC (kG κ) 60 fg), (p 2, .inr (4, [.int (nI 13), .int (nI 4), .ref (p 3), .int (nI lq.1)])), (p 3, aI (kG κ) 52 fp)] 81 [(4, .int (nI 0)), (3, .int (nI v37)), (2, .int (nI v14)), (1, .int (nI kd1)), (0, .ref (p 0))] [.int (nI v78)]
                  refine w_goto (nx := 85) C dX3_readStatement_81 rfl ?_
                  refine w_istore (nx := 87) (lo2 := [(4, .int (nI v78)), (3, .int (nI v37)), (2, .int (nI v14)), (1, .int (nI kd1)), (0, .ref (p 0))]) C dX3_readStatement_85 rfl (by decide) rfl ?_
                  refine w_iload (nx := 89) C 0 dX3_readStatement_87 rfl rfl ?_
                  refine w_iconst (nx := 90) C (-1) dX3_readStatement_89 rfl (by decide) ?_
                  refine w_icmp_ne (tg := 95) (nx := 93) C dX3_readStatement_90 rfl rfl (fun _ => ?_) (fun q9 => absurd q9 (nI_nneg (by omega) (by decide)))
                  refine w_aload_n (nx := 96) C 4 dX3_readStatement_95 rfl rfl rfl ?_
                  refine w_iload_n (nx := 97) C 3 dX3_readStatement_96 rfl rfl rfl ?_
                  refine w_iload_n (nx := 98) C 2 dX3_readStatement_97 rfl rfl rfl ?_
                  refine w_iload_n (nx := 99) C 1 dX3_readStatement_98 rfl rfl rfl ?_
                  refine w_iload (nx := 101) C 0 dX3_readStatement_99 rfl rfl ?_
                  refine w_callV (nx := 104) (wr := [(p 1, aC (kG κ) 60 fg)]) (rest := []) C mi_X3_keep (c_X3_keep _ _ p (nI P.1) (nI a278) lq fp kd1 v14 v37 v78 (by first | assumption | omega) (by first | assumption | omega) (by first | assumption | omega) (by first | assumption | omega) (by first | assumption | omega) (by first | assumption | omega)) 0 dX3_readStatement_101 rfl wl_X3_59 rfl rfl rfl (pm_sel [0, 2, 3, 1] 4 (by decide +kernel) rfl rfl) rfl rfl (Nat.le_of_ble_eq_true rfl) (Nat.le_of_ble_eq_true rfl) (Nat.le_of_ble_eq_true rfl) (Nat.zero_le _) (Nat.zero_le _) (fun v9 w9 R_29 => ?_)
                  obtain ⟨fp2_30, rfl, rfl, hQ2_31⟩ := R_29
                  show WW κ 0 0 [(p 0, .inr (3, [.ref (p 1), .ref (p 2), .int (nI P.1), .int (nI a278)])), (p 2, .inr (4, [.int (nI 13), .int (nI 4), .ref (p 3), .int (nI (lq.1 + 1))])), (p 3, aI (kG κ) 52 fp2_30), (p 1, aC (kG κ) 60 fg)] 104 [(4, .int (nI v78)), (3, .int (nI v37)), (2, .int (nI v14)), (1, .int (nI kd1)), (0, .ref (p 0))] []
                  refine w_iconst (nx := 105) C (nI 1) dX3_readStatement_104 rfl (by decide) ?_
                  refine ww_sel (l := [(p 0, .inr (3, [.ref (p 1), .ref (p 2), .int (nI P.1), .int (nI a278)])), (p 1, aC (kG κ) 60 fg), (p 2, .inr (4, [.int (nI 13), .int (nI 4), .ref (p 3), .int (nI (lq.1 + 1))])), (p 3, aI (kG κ) 52 fp2_30)]) (pm_sel [0, 3, 1, 2] 4 (by decide +kernel) rfl rfl) ?_
                  exact w_iret (ty := .boolean) C E dX3_readStatement_105 rfl rfl (Nat.le_refl _) (Nat.le_refl _) (Or.inl ⟨(kd1, v14, v37, v78), a278, _, rfl, rfl, ((stm_8 (by omega) h114 h126 h137 (by split <;> omega) h178).trans (by rw [show (if sg P a = 108 then 0 else 1) = kd1 by split <;> omega])), (by first | assumption | rfl | omega), (by first | assumption | rfl | omega)⟩)
                · show WW κ 0 0 [(p 0, .inr (3, [.ref (p 1), .ref (p 2), .int (nI P.1), .int (nI (a237 + 1))])), (p 1, aC (kG κ) 60 fg), (p 2, .inr (4, [.int (nI 13), .int (nI 4), .ref (p 3), .int (nI lq.1)])), (p 3, aI (kG κ) 52 fp)] 81 [(4, .int (nI 0)), (3, .int (nI v37)), (2, .int (nI v14)), (1, .int (nI kd1)), (0, .ref (p 0))] [.int (-1)]
                  refine w_goto (nx := 85) C dX3_readStatement_81 rfl ?_
                  refine w_istore (nx := 87) (lo2 := [(4, .int (-1)), (3, .int (nI v37)), (2, .int (nI v14)), (1, .int (nI kd1)), (0, .ref (p 0))]) C dX3_readStatement_85 rfl (by decide) rfl ?_
                  refine w_iload (nx := 89) C 0 dX3_readStatement_87 rfl rfl ?_
                  refine w_iconst (nx := 90) C (-1) dX3_readStatement_89 rfl (by decide) ?_
                  refine w_icmp_ne (tg := 95) (nx := 93) C dX3_readStatement_90 rfl rfl (fun q9 => absurd (by decide) q9) (fun _ => ?_)
                  refine w_iconst (nx := 94) C (nI 0) dX3_readStatement_93 rfl (by decide) ?_
                  exact w_iret (ty := .boolean) C E dX3_readStatement_94 rfl rfl (Nat.le_refl _) (Nat.le_refl _) (Or.inr (⟨(a237 + 1), rfl, rfl, (stm_7 (by omega) h114 h126 h137 (by split <;> omega) h178), (by first | assumption | rfl | omega)⟩))
              · show WW κ 0 0 [(p 0, .inr (3, [.ref (p 1), .ref (p 2), .int (nI P.1), .int (nI a237)])), (p 1, aC (kG κ) 60 fg), (p 2, .inr (4, [.int (nI 13), .int (nI 4), .ref (p 3), .int (nI lq.1)])), (p 3, aI (kG κ) 52 fp)] 71 [(4, .int (nI 0)), (3, .int (nI v37)), (2, .int (nI v14)), (1, .int (nI kd1)), (0, .ref (p 0))] [.int (nI 0)]
                refine w_if_eq (tg := 84) (nx := 74) C dX3_readStatement_71 rfl rfl (fun _ => ?_) (fun q9 => absurd (by decide) q9)
                refine w_iconst (nx := 85) C (-1) dX3_readStatement_84 rfl (by decide) ?_
                refine w_istore (nx := 87) (lo2 := [(4, .int (-1)), (3, .int (nI v37)), (2, .int (nI v14)), (1, .int (nI kd1)), (0, .ref (p 0))]) C dX3_readStatement_85 rfl (by decide) rfl ?_
                refine w_iload (nx := 89) C 0 dX3_readStatement_87 rfl rfl ?_
                refine w_iconst (nx := 90) C (-1) dX3_readStatement_89 rfl (by decide) ?_
                refine w_icmp_ne (tg := 95) (nx := 93) C dX3_readStatement_90 rfl rfl (fun q9 => absurd (by decide) q9) (fun _ => ?_)
                refine w_iconst (nx := 94) C (nI 0) dX3_readStatement_93 rfl (by decide) ?_
                exact w_iret (ty := .boolean) C E dX3_readStatement_94 rfl rfl (Nat.le_refl _) (Nat.le_refl _) (Or.inr (⟨a237, rfl, rfl, (stm_6 (by omega) h114 h126 h137 (by split <;> omega)), (by first | assumption | rfl | omega)⟩))
        · show WW κ 0 0 [(p 0, .inr (3, [.ref (p 1), .ref (p 2), .int (nI P.1), .int (nI (a214 + 1))])), (p 1, aC (kG κ) 60 fg), (p 2, .inr (4, [.int (nI 13), .int (nI 4), .ref (p 3), .int (nI lq.1)])), (p 3, aI (kG κ) 52 fp)] 40 [(2, .int (nI v14)), (1, .int (nI kd1)), (0, .ref (p 0))] [.int (-1)]
          refine w_istore_n (nx := 41) (lo2 := [(3, .int (-1)), (2, .int (nI v14)), (1, .int (nI kd1)), (0, .ref (p 0))]) C dX3_readStatement_40 rfl rfl (by decide) rfl ?_
          refine w_iload_n (nx := 42) C 0 dX3_readStatement_41 rfl rfl rfl ?_
          refine w_iconst (nx := 43) C (-1) dX3_readStatement_42 rfl (by decide) ?_
          refine w_icmp_ne (tg := 48) (nx := 46) C dX3_readStatement_43 rfl rfl (fun q9 => absurd (by decide) q9) (fun _ => ?_)
          refine w_iconst (nx := 47) C (nI 0) dX3_readStatement_46 rfl (by decide) ?_
          exact w_iret (ty := .boolean) C E dX3_readStatement_47 rfl rfl (Nat.le_refl _) (Nat.le_refl _) (Or.inr (⟨(a214 + 1), rfl, rfl, (stm_4 (by omega) h114 h126 h137), (by first | assumption | rfl | omega)⟩))
      · show WW κ 0 0 [(p 0, .inr (3, [.ref (p 1), .ref (p 2), .int (nI P.1), .int (nI a214)])), (p 1, aC (kG κ) 60 fg), (p 2, .inr (4, [.int (nI 13), .int (nI 4), .ref (p 3), .int (nI lq.1)])), (p 3, aI (kG κ) 52 fp)] 29 [(2, .int (nI v14)), (1, .int (nI kd1)), (0, .ref (p 0))] [.int (nI 0)]
        refine w_if_ne (tg := 34) (nx := 32) C dX3_readStatement_29 rfl rfl (fun q9 => absurd (by decide) q9) (fun _ => ?_)
        refine w_iconst (nx := 33) C (nI 0) dX3_readStatement_32 rfl (by decide) ?_
        exact w_iret (ty := .boolean) C E dX3_readStatement_33 rfl rfl (Nat.le_refl _) (Nat.le_refl _) (Or.inr (⟨a214, rfl, rfl, (stm_3 (by omega) h114 h126), (by first | assumption | rfl | omega)⟩))
    · show WW κ 0 0 [(p 0, .inr (3, [.ref (p 1), .ref (p 2), .int (nI P.1), .int (nI (a + 1))])), (p 1, aC (kG κ) 60 fg), (p 2, .inr (4, [.int (nI 13), .int (nI 4), .ref (p 3), .int (nI lq.1)])), (p 3, aI (kG κ) 52 fp)] 17 [(1, .int (nI kd1)), (0, .ref (p 0))] [.int (-1)]
      refine w_istore_n (nx := 18) (lo2 := [(2, .int (-1)), (1, .int (nI kd1)), (0, .ref (p 0))]) C dX3_readStatement_17 rfl rfl (by decide) rfl ?_
      refine w_iload_n (nx := 19) C 0 dX3_readStatement_18 rfl rfl rfl ?_
      refine w_iconst (nx := 20) C (-1) dX3_readStatement_19 rfl (by decide) ?_
      refine w_icmp_eq (tg := 32) (nx := 23) C dX3_readStatement_20 rfl rfl (fun _ => ?_) (fun q9 => absurd (by decide) q9)
      refine w_iconst (nx := 33) C (nI 0) dX3_readStatement_32 rfl (by decide) ?_
      exact w_iret (ty := .boolean) C E dX3_readStatement_33 rfl rfl (Nat.le_refl _) (Nat.le_refl _) (Or.inr (⟨(a + 1), rfl, rfl, (stm_2 (by omega) h114), (by first | assumption | rfl | omega)⟩))
  · show WW κ 0 0 [(p 0, .inr (3, [.ref (p 1), .ref (p 2), .int (nI P.1), .int (nI a)])), (p 1, aC (kG κ) 60 fg), (p 2, .inr (4, [.int (nI 13), .int (nI 4), .ref (p 3), .int (nI lq.1)])), (p 3, aI (kG κ) 52 fp)] 4 [(0, .ref (p 0))] [.int (-1)]
    refine w_istore_n (nx := 5) (lo2 := [(1, .int (-1)), (0, .ref (p 0))]) C dX3_readStatement_4 rfl rfl (by decide) rfl ?_
    refine w_iload_n (nx := 6) C 0 dX3_readStatement_5 rfl rfl rfl ?_
    refine w_iconst (nx := 7) C (-1) dX3_readStatement_6 rfl (by decide) ?_
    refine w_icmp_ne (tg := 12) (nx := 10) C dX3_readStatement_7 rfl rfl (fun q9 => absurd (by decide) q9) (fun _ => ?_)
    refine w_iconst (nx := 11) C (nI 0) dX3_readStatement_10 rfl (by decide) ?_
    exact w_iret (ty := .boolean) C E dX3_readStatement_11 rfl rfl (Nat.le_refl _) (Nat.le_refl _) (Or.inr (⟨a, rfl, rfl, (stm_1 h11), (by first | assumption | rfl | omega)⟩))
set_option maxHeartbeats 4000000 in
set_option maxRecDepth 100000 in
theorem c_X3_read (l : Launch) (G : GG) (p : Nat → Nat) (P : PD) (fg : Nat → Int32) (a0 : Int32) (y : Int32) (fp : Nat → Int32) (hP : rP fg P) (hw : wfP P) : MT l G yX3_read cX3_read 2 (some .int) 6 0 0 [.ref (p 0)] [(p 0, .inr (3, [.ref (p 1), .ref (p 2), .int (nI P.1), .int a0])), (p 1, aC G 60 fg), (p 2, .inr (4, [.int (nI 13), .int (nI 4), .ref (p 3), .int y])), (p 3, aI G 52 fp)] (fun v9 ws9 => (∃ (a2 : Nat) (y2 : Int32) (a3 : Int32) (fp2 : Nat → Int32), v9 = some (.int (nI a2)) ∧ ws9 = [(p 0, .inr (3, [.ref (p 1), .ref (p 2), .int (nI P.1), .int a3])), (p 1, aC G 60 fg), (p 2, .inr (4, [.int (nI 13), .int (nI 4), .ref (p 3), .int y2])), (p 3, aI G 52 fp2)] ∧ (rdP P).1 = some a2) ∨ (∃ (lq : SQ) (a3 : Int32) (fp2 : Nat → Int32), v9 = some (.int (-6)) ∧ ws9 = [(p 0, .inr (3, [.ref (p 1), .ref (p 2), .int (nI P.1), .int a3])), (p 1, aC G 60 fg), (p 2, .inr (4, [.int (nI 13), .int (nI 4), .ref (p 3), .int (nI lq.1)])), (p 3, aI G 52 fp2)] ∧ rdP P = (none, lq) ∧ rQ fp2 lq ∧ lq.1 ≤ 13)) := by
  refine MT.of RX3 [(0, .ref (p 0))] (by decide +kernel) rfl rfl (Nat.le_of_ble_eq_true rfl) (fun κ C E hl9 hG9 hnm9 => ?_)
  subst hl9; subst hG9
  have hz9 := hw.1
  refine w_aload_n (nx := 1) C 0 dX3_read_0 rfl rfl rfl ?_
  refine w_iconst (nx := 2) C (nI 0) dX3_read_1 rfl (by decide) ?_
  refine w_put (nx := 5) (ws2 := [(p 0, .inr (3, [.ref (p 1), .ref (p 2), .int (nI P.1), .int (nI 0)])), (p 1, aC (kG κ) 60 fg), (p 2, .inr (4, [.int (nI 13), .int (nI 4), .ref (p 3), .int y])), (p 3, aI (kG κ) 52 fp)]) C fc3 0 3 dX3_read_2 rfl wl_X3_28 rfl (by decide) rfl rfl rfl (Nat.le_of_ble_eq_true rfl) rfl ?_
  refine w_aload_n (nx := 6) C 0 dX3_read_5 rfl rfl rfl ?_
  refine w_get (nx := 9) C fc3 (.ref (p 2)) 0 1 dX3_read_6 rfl wl_X3_20 rfl (by decide) rfl rfl ?_
  refine w_callV (nx := 12) (wr := [(p 0, .inr (3, [.ref (p 1), .ref (p 2), .int (nI P.1), .int (nI 0)])), (p 1, aC (kG κ) 60 fg)]) (rest := []) C mi_X4_clear (c_X4_clear _ _ (p 2) (p 3) 13 4 y 52 fp) 0 dX3_read_9 rfl wl_X3_41 rfl rfl rfl (pm_sel [2, 3, 0, 1] 4 (by decide +kernel) rfl rfl) rfl rfl (Nat.le_of_ble_eq_true rfl) (Nat.le_of_ble_eq_true rfl) (Nat.le_of_ble_eq_true rfl) (Nat.zero_le _) (Nat.zero_le _) (fun v9 w9 R_1 => ?_)
  obtain ⟨rfl, rfl⟩ := R_1
  show WW κ 0 0 [(p 2, .inr (4, [.int (nI 13), .int (nI 4), .ref (p 3), .int (nI 0)])), (p 3, aI (kG κ) 52 fp), (p 0, .inr (3, [.ref (p 1), .ref (p 2), .int (nI P.1), .int (nI 0)])), (p 1, aC (kG κ) 60 fg)] 12 [(0, .ref (p 0))] []
  refine w_iconst (nx := 13) C (nI 0) dX3_read_12 rfl (by decide) ?_
  refine w_istore_n (nx := 14) (lo2 := [(1, .int (nI 0)), (0, .ref (p 0))]) C dX3_read_13 rfl rfl (by decide) rfl ?_
  have LP_2 : ∀ (N9_14 : Nat) (m : Nat) (a : Nat) (lq : SQ) (fp1 : Nat → Int32), (m ≤ 13) → (lq.1 = m) → (a ≤ 60) → (rdP P = prsP P (13 - m) a lq) → (rQ fp1 lq) → (5 * m ≤ a) → (13 - m) < N9_14 → WW κ 0 0 [(p 0, .inr (3, [.ref (p 1), .ref (p 2), .int (nI P.1), .int (nI a)])), (p 1, aC (kG κ) 60 fg), (p 2, .inr (4, [.int (nI 13), .int (nI 4), .ref (p 3), .int (nI lq.1)])), (p 3, aI (kG κ) 52 fp1)] 14 [(0, .ref (p 0)), (1, .int (nI m))] [] := by
    intro N9_14
    induction N9_14 with
    | zero => intro m a lq fp1 hm hlm ha hr hQ hb hm9_14; exact absurd hm9_14 (Nat.not_lt_zero _)
    | succ N9_14 ih9_14 =>
      intro m a lq fp1 hm hlm ha hr hQ hb hm9_14
      refine w_iload_n (nx := 15) C 1 dX3_read_14 rfl rfl rfl ?_
      refine w_bipush (nx := 17) C (nI 13) dX3_read_15 rfl (by decide) ?_
      refine n_icmp_ge (tg := 66) (nx := 20) C dX3_read_17 rfl rfl (by omega) (by omega) (fun h_3 => ?_) (fun h_3 => ?_)
      · exfalso; omega
      · refine w_aload_n (nx := 21) C 0 dX3_read_20 rfl rfl rfl ?_
        refine w_callV (nx := 24) (wr := []) (rest := []) C mi_X3_readStatement (c_X3_readStatement _ _ p P fg a lq fp1 (by first | assumption | omega) (by first | assumption | omega) (by first | assumption | omega) (by first | assumption | omega) (by first | assumption | omega)) 0 dX3_read_21 rfl wl_X3_44 rfl rfl rfl (pm_sel [0, 1, 2, 3] 4 (by decide +kernel) rfl rfl) rfl rfl (Nat.le_of_ble_eq_true rfl) (Nat.le_of_ble_eq_true rfl) (Nat.le_of_ble_eq_true rfl) (Nat.zero_le _) (Nat.zero_le _) (fun v9 w9 R_4 => ?_)
        rcases R_4 with ⟨x21, a21, fp21, rfl, rfl, h21, h321, hQ21⟩ | ⟨a21, rfl, rfl, h21, h321⟩
        · show WW κ 0 0 [(p 0, .inr (3, [.ref (p 1), .ref (p 2), .int (nI P.1), .int (nI a21)])), (p 1, aC (kG κ) 60 fg), (p 2, .inr (4, [.int (nI 13), .int (nI 4), .ref (p 3), .int (nI ((psh lq x21).1))])), (p 3, aI (kG κ) 52 fp21)] 24 [(0, .ref (p 0)), (1, .int (nI m))] [.int (nI 1)]
          have hle9 := stm_le h21
          refine w_if_ne (tg := 32) (nx := 27) C dX3_read_24 rfl rfl (fun _ => ?_) (fun q9 => absurd q9 (by decide))
          refine w_aload_n (nx := 33) C 0 dX3_read_32 rfl rfl rfl ?_
          refine w_get (nx := 36) C fc3 (.int (nI a21)) 0 3 dX3_read_33 rfl wl_X3_28 rfl (by decide) rfl rfl ?_
          refine w_aload_n (nx := 37) C 0 dX3_read_36 rfl rfl rfl ?_
          refine w_get (nx := 40) C fc3 (.int (nI P.1)) 0 2 dX3_read_37 rfl wl_X3_24 rfl (by decide) rfl rfl ?_
          refine n_icmp_lt (tg := 46) (nx := 43) C dX3_read_40 rfl rfl (by omega) (by omega) (fun h_6 => ?_) (fun h_6 => ?_)
          · refine w_aload_n (nx := 47) C 0 dX3_read_46 rfl rfl rfl ?_
            refine w_bipush (nx := 49) C (nI 59) dX3_read_47 rfl (by decide) ?_
            refine w_callV (nx := 52) (wr := [(p 2, .inr (4, [.int (nI 13), .int (nI 4), .ref (p 3), .int (nI ((psh lq x21).1))])), (p 3, aI (kG κ) 52 fp21)]) (rest := []) C mi_X3_accepts (c_X3_accepts _ _ p P fg a21 59 (by first | assumption | omega) (by first | assumption | omega) (by first | assumption | omega) (by first | assumption | omega) (by first | assumption | omega)) 0 dX3_read_49 rfl wl_X3_48 rfl rfl rfl (pm_sel [0, 1, 2, 3] 4 (by decide +kernel) rfl rfl) rfl rfl (Nat.le_of_ble_eq_true rfl) (Nat.le_of_ble_eq_true rfl) (Nat.le_of_ble_eq_true rfl) (Nat.zero_le _) (Nat.zero_le _) (fun v9 w9 R_7 => ?_)
            rcases R_7 with ⟨rfl, rfl, h49, h249⟩ | ⟨rfl, rfl, h49⟩
            · show WW κ 0 0 [(p 0, .inr (3, [.ref (p 1), .ref (p 2), .int (nI P.1), .int (nI (a21 + 1))])), (p 1, aC (kG κ) 60 fg), (p 2, .inr (4, [.int (nI 13), .int (nI 4), .ref (p 3), .int (nI ((psh lq x21).1))])), (p 3, aI (kG κ) 52 fp21)] 52 [(0, .ref (p 0)), (1, .int (nI m))] [.int (nI 1)]
              refine w_if_ne (tg := 60) (nx := 55) C dX3_read_52 rfl rfl (fun _ => ?_) (fun q9 => absurd q9 (by decide))
              refine w_iinc (nx := 63) (lo2 := [(1, .int (nI (m + 1))), (0, .ref (p 0))]) C (nI (m + 1)) 1 dX3_read_60 rfl rfl (nI_add _ _) (by decide) rfl ?_
              refine w_goto (nx := 14) C dX3_read_63 rfl ?_
              refine ww_lo [1, 0] (lo' := [(0, .ref (p 0)), (1, .int (nI (m + 1)))]) rfl ?_
              exact ih9_14 (m + 1) (a21 + 1) (psh lq x21) fp21 (by omega) (congrArg (fun z => z + 1) hlm) (by omega) (hr.trans (by rw [show 13 - m = 13 - (m + 1) + 1 by omega, prs_3 h21 (by omega) h49])) (hQ21) (by omega) (by omega)
            · show WW κ 0 0 [(p 0, .inr (3, [.ref (p 1), .ref (p 2), .int (nI P.1), .int (nI a21)])), (p 1, aC (kG κ) 60 fg), (p 2, .inr (4, [.int (nI 13), .int (nI 4), .ref (p 3), .int (nI ((psh lq x21).1))])), (p 3, aI (kG κ) 52 fp21)] 52 [(0, .ref (p 0)), (1, .int (nI m))] [.int (nI 0)]
              refine w_if_ne (tg := 60) (nx := 55) C dX3_read_52 rfl rfl (fun q9 => absurd (by decide) q9) (fun _ => ?_)
              refine w_aload_n (nx := 56) C 0 dX3_read_55 rfl rfl rfl ?_
              refine w_get (nx := 59) C fc3 (.int (nI a21)) 0 3 dX3_read_56 rfl wl_X3_28 rfl (by decide) rfl rfl ?_
              exact w_iret (ty := .int) C E dX3_read_59 rfl rfl (Nat.le_refl _) (Nat.le_refl _) (Or.inl ⟨a21, (nI (psh lq x21).1), (nI a21), fp21, rfl, rfl, (by rw [hr, show 13 - m = 12 - m + 1 by omega, prs_4 h21 (by omega) h49])⟩)
          · refine w_bipush (nx := 45) C (-6) dX3_read_43 rfl (by decide) ?_
            exact w_iret (ty := .int) C E dX3_read_45 rfl rfl (Nat.le_refl _) (Nat.le_refl _) (Or.inr (⟨(psh lq x21), (nI a21), fp21, rfl, rfl, (by rw [hr, show 13 - m = 12 - m + 1 by omega, prs_2 h21 (by omega)]), (hQ21), (by show lq.1 + 1 ≤ 13; omega)⟩))
        · show WW κ 0 0 [(p 0, .inr (3, [.ref (p 1), .ref (p 2), .int (nI P.1), .int (nI a21)])), (p 1, aC (kG κ) 60 fg), (p 2, .inr (4, [.int (nI 13), .int (nI 4), .ref (p 3), .int (nI lq.1)])), (p 3, aI (kG κ) 52 fp1)] 24 [(0, .ref (p 0)), (1, .int (nI m))] [.int (nI 0)]
          refine w_if_ne (tg := 32) (nx := 27) C dX3_read_24 rfl rfl (fun q9 => absurd (by decide) q9) (fun _ => ?_)
          refine w_aload_n (nx := 28) C 0 dX3_read_27 rfl rfl rfl ?_
          refine w_get (nx := 31) C fc3 (.int (nI a21)) 0 3 dX3_read_28 rfl wl_X3_28 rfl (by decide) rfl rfl ?_
          exact w_iret (ty := .int) C E dX3_read_31 rfl rfl (Nat.le_refl _) (Nat.le_refl _) (Or.inl ⟨a21, (nI lq.1), (nI a21), fp1, rfl, rfl, (by rw [hr, show 13 - m = 12 - m + 1 by omega, prs_1 h21])⟩)
  refine ww_sel (l := [(p 0, .inr (3, [.ref (p 1), .ref (p 2), .int (nI P.1), .int (nI 0)])), (p 1, aC (kG κ) 60 fg), (p 2, .inr (4, [.int (nI 13), .int (nI 4), .ref (p 3), .int (nI 0)])), (p 3, aI (kG κ) 52 fp)]) (pm_sel [2, 3, 0, 1] 4 (by decide +kernel) rfl rfl) ?_
  refine ww_lo [1, 0] (lo' := [(0, .ref (p 0)), (1, .int (nI 0))]) rfl ?_
  exact LP_2 _ 0 0 ((0, fun _ => (0, 0, 0, 0)) : SQ) fp (by decide) (rfl) (by decide) (rfl) (rQ_no) (by decide) (Nat.lt_succ_self _)
