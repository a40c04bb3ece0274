set_option maxHeartbeats 4000000 in
set_option maxRecDepth 100000 in
theorem c_X9_set (l : Launch) (G : GG) (h : Nat) (w : va_W) (X : SX) (q : Int32) (qv : Int32) (hRX : RMX G h w X) : MT l G yX9_set cX9_set 4 (some .int) 2 0 0 [.ref h, .int q, .int qv] ((w)) (fun v9 ws9 => ∃ (w2 : va_W), v9 = some (.int ((o_set X q qv).1)) ∧ ws9 = ((w2)) ∧ RMX G h w2 (o_set X q qv).2) := by
  refine RMX_elim hRX (fun a v f1 f2 f3 f5 f6 f7 f17 f21 f22 f23 f24 f25 f26 f27 f28 f29 f31 f32 f33 f34 f35 f36 f37 f38 f41 hw9 hh hO hS hU hUn hSl hPd h18 => ?_)
  subst hw9
  subst hh
  refine MT.of RX9 [(0, .ref (a 0)), (1, .int q), (2, .int qv)] (by decide +kernel) rfl rfl (Nat.le_of_ble_eq_true rfl) (fun κ C E hl9 hG9 hnm9 => ?_)
  subst hl9; subst hG9
  have hn12 := hO.1.2.2.2.1.1
  have hj100 := hO.1.2.2.2.2
  have hz6 := hO.2.1.1
  have hp60 := hO.2.2.2.1
  have hd8 := hO.1.1
  have hl1 := hO.1.2.1
  have hzT := hO.1.2.2.1
  refine w_aload_n (nx := 1) C 0 dX9_set_0 rfl rfl rfl ?_
  refine w_iconst (nx := 2) C (nI 0) dX9_set_1 rfl (by decide) ?_
  refine w_putM (nx := 5) (ws2 := [(a 0, mO a (upd v 0 (nI 0))), (a 1, aI (kG κ) 800 f1), (a 2, aI (kG κ) 800 f2), (a 3, aI (kG κ) 4800 f3), (a 5, aI (kG κ) 1600 f5), (a 6, aZ (kG κ) 2 f6), (a 7, aI (kG κ) 60 f7), (a 17, aI (kG κ) 12 f17), (a 21, aI (kG κ) 12 f21), (a 22, aI (kG κ) 12 f22), (a 23, aI (kG κ) 12 f23), (a 24, aI (kG κ) 12 f24), (a 25, aI (kG κ) 12 f25), (a 26, aI (kG κ) 12 f26), (a 27, aI (kG κ) 12 f27), (a 28, aI (kG κ) 12 f28), (a 29, aZ (kG κ) 4 f29), (a 31, aI (kG κ) 1300 f31), (a 32, aI (kG κ) 1300 f32), (a 33, aI (kG κ) 1300 f33), (a 34, aI (kG κ) 1300 f34), (a 35, aI (kG κ) 13000 f35), (a 36, aI (kG κ) 606 f36), (a 37, aI (kG κ) 12 f37), (a 38, aI (kG κ) 12 f38), (a 41, aI (kG κ) 64 f41)]) C 0 0 dX9_set_2 rfl wl_X9_90 rfl (by decide) rfl rfl rfl (ms_0 _ _ _) rfl ?_
  refine w_iload_n (nx := 6) C 1 dX9_set_5 rfl rfl rfl ?_
  refine w_iconst (nx := 7) C (nI 0) dX9_set_6 rfl (by decide) ?_
  refine w_iconst (nx := 8) C (nI 1) dX9_set_7 rfl (by decide) ?_
  refine w_callS (nx := 11) (wr := [(a 0, mO a (upd v 0 (nI 0))), (a 1, aI (kG κ) 800 f1), (a 2, aI (kG κ) 800 f2), (a 3, aI (kG κ) 4800 f3), (a 5, aI (kG κ) 1600 f5), (a 6, aZ (kG κ) 2 f6), (a 7, aI (kG κ) 60 f7), (a 17, aI (kG κ) 12 f17), (a 21, aI (kG κ) 12 f21), (a 22, aI (kG κ) 12 f22), (a 23, aI (kG κ) 12 f23), (a 24, aI (kG κ) 12 f24), (a 25, aI (kG κ) 12 f25), (a 26, aI (kG κ) 12 f26), (a 27, aI (kG κ) 12 f27), (a 28, aI (kG κ) 12 f28), (a 29, aZ (kG κ) 4 f29), (a 31, aI (kG κ) 1300 f31), (a 32, aI (kG κ) 1300 f32), (a 33, aI (kG κ) 1300 f33), (a 34, aI (kG κ) 1300 f34), (a 35, aI (kG κ) 13000 f35), (a 36, aI (kG κ) 606 f36), (a 37, aI (kG κ) 12 f37), (a 38, aI (kG κ) 12 f38), (a 41, aI (kG κ) 64 f41)]) (rest := []) C ms_X9_in (c_X9_in_w _ _ q 2 (nI 1) (by decide) (by decide)) dX9_set_8 rfl wl_X9_93 rfl (pm_sel [0, 1, 2, 3, 4, 5, 6, 7, 8, 9, 10, 11, 12, 13, 14, 15, 16, 17, 18, 19, 20, 21, 22, 23, 24, 25] 26 (by decide +kernel) rfl rfl) rfl rfl (Nat.le_of_ble_eq_true rfl) (Nat.le_of_ble_eq_true rfl) (Nat.le_of_ble_eq_true rfl) (Nat.zero_le _) (Nat.zero_le _) (fun v9 w9 R_1 => ?_)
  obtain ⟨rfl, rfl⟩ := R_1
  show WW κ 0 0 [(a 0, mO a (upd v 0 (nI 0))), (a 1, aI (kG κ) 800 f1), (a 2, aI (kG κ) 800 f2), (a 3, aI (kG κ) 4800 f3), (a 5, aI (kG κ) 1600 f5), (a 6, aZ (kG κ) 2 f6), (a 7, aI (kG κ) 60 f7), (a 17, aI (kG κ) 12 f17), (a 21, aI (kG κ) 12 f21), (a 22, aI (kG κ) 12 f22), (a 23, aI (kG κ) 12 f23), (a 24, aI (kG κ) 12 f24), (a 25, aI (kG κ) 12 f25), (a 26, aI (kG κ) 12 f26), (a 27, aI (kG κ) 12 f27), (a 28, aI (kG κ) 12 f28), (a 29, aZ (kG κ) 4 f29), (a 31, aI (kG κ) 1300 f31), (a 32, aI (kG κ) 1300 f32), (a 33, aI (kG κ) 1300 f33), (a 34, aI (kG κ) 1300 f34), (a 35, aI (kG κ) 13000 f35), (a 36, aI (kG κ) 606 f36), (a 37, aI (kG κ) 12 f37), (a 38, aI (kG κ) 12 f38), (a 41, aI (kG κ) 64 f41)] 11 [(0, .ref (a 0)), (1, .int q), (2, .int qv)] [.int (bC (wi q 2))]
  refine b_if_eq (tg := 32) (nx := 14) C dX9_set_11 rfl rfl (fun h_2 => ?_) (fun h_2 => ?_)
  · have hno := h_2
    refine w_bipush (nx := 34) C (-2) dX9_set_32 rfl (by decide) ?_
    have ho9 : o_set X q qv = ((-2), X) := by unfold o_set; rw [if_neg (show ¬ (q = 0 ∧ wi qv 9) from fun z => hno ⟨0, by decide, z.1⟩), if_neg (show ¬ (q = 1 ∧ wi qv 2) from fun z => hno ⟨1, by decide, z.1⟩)]
    refine w_iret (ty := .int) C E dX9_set_34 rfl rfl (Nat.le_refl _) (Nat.le_refl _) ?_
    rw [ho9]
    exact ⟨_, rfl, rfl, _, _, _, _, _, _, _, _, _, _, _, _, _, _, _, _, _, _, _, _, _, _, _, _, _, _, _, rfl, rfl, hO, hS, hU, hUn, hSl, hPd, h18⟩
  · obtain ⟨jq, hjq, rfl⟩ := h_2
    refine w_iload_n (nx := 15) C 2 dX9_set_14 rfl rfl rfl ?_
    refine w_iconst (nx := 16) C (nI 0) dX9_set_15 rfl (by decide) ?_
    refine w_iload_n (nx := 17) C 1 dX9_set_16 rfl rfl rfl ?_
    refine n_if_ne (tg := 25) (nx := 20) C dX9_set_17 rfl rfl (by omega) (fun h_3 => ?_) (fun h_3 => ?_)
    · have hj0 : jq = 1 := by omega
      subst hj0
      show WW κ 0 0 [(a 0, mO a (upd v 0 (nI 0))), (a 1, aI (kG κ) 800 f1), (a 2, aI (kG κ) 800 f2), (a 3, aI (kG κ) 4800 f3), (a 5, aI (kG κ) 1600 f5), (a 6, aZ (kG κ) 2 f6), (a 7, aI (kG κ) 60 f7), (a 17, aI (kG κ) 12 f17), (a 21, aI (kG κ) 12 f21), (a 22, aI (kG κ) 12 f22), (a 23, aI (kG κ) 12 f23), (a 24, aI (kG κ) 12 f24), (a 25, aI (kG κ) 12 f25), (a 26, aI (kG κ) 12 f26), (a 27, aI (kG κ) 12 f27), (a 28, aI (kG κ) 12 f28), (a 29, aZ (kG κ) 4 f29), (a 31, aI (kG κ) 1300 f31), (a 32, aI (kG κ) 1300 f32), (a 33, aI (kG κ) 1300 f33), (a 34, aI (kG κ) 1300 f34), (a 35, aI (kG κ) 13000 f35), (a 36, aI (kG κ) 606 f36), (a 37, aI (kG κ) 12 f37), (a 38, aI (kG κ) 12 f38), (a 41, aI (kG κ) 64 f41)] 25 [(0, .ref (a 0)), (1, .int (nI 1)), (2, .int qv)] [.int (nI 0), .int qv]
      refine w_iconst (nx := 26) C (nI 1) dX9_set_25 rfl (by decide) ?_
      refine w_callS (nx := 29) (wr := [(a 0, mO a (upd v 0 (nI 0))), (a 1, aI (kG κ) 800 f1), (a 2, aI (kG κ) 800 f2), (a 3, aI (kG κ) 4800 f3), (a 5, aI (kG κ) 1600 f5), (a 6, aZ (kG κ) 2 f6), (a 7, aI (kG κ) 60 f7), (a 17, aI (kG κ) 12 f17), (a 21, aI (kG κ) 12 f21), (a 22, aI (kG κ) 12 f22), (a 23, aI (kG κ) 12 f23), (a 24, aI (kG κ) 12 f24), (a 25, aI (kG κ) 12 f25), (a 26, aI (kG κ) 12 f26), (a 27, aI (kG κ) 12 f27), (a 28, aI (kG κ) 12 f28), (a 29, aZ (kG κ) 4 f29), (a 31, aI (kG κ) 1300 f31), (a 32, aI (kG κ) 1300 f32), (a 33, aI (kG κ) 1300 f33), (a 34, aI (kG κ) 1300 f34), (a 35, aI (kG κ) 13000 f35), (a 36, aI (kG κ) 606 f36), (a 37, aI (kG κ) 12 f37), (a 38, aI (kG κ) 12 f38), (a 41, aI (kG κ) 64 f41)]) (rest := []) C ms_X9_in (c_X9_in_w _ _ qv 2 (nI 1) (by decide) (by decide)) dX9_set_26 rfl wl_X9_93 rfl (pm_sel [0, 1, 2, 3, 4, 5, 6, 7, 8, 9, 10, 11, 12, 13, 14, 15, 16, 17, 18, 19, 20, 21, 22, 23, 24, 25] 26 (by decide +kernel) rfl rfl) rfl rfl (Nat.le_of_ble_eq_true rfl) (Nat.le_of_ble_eq_true rfl) (Nat.le_of_ble_eq_true rfl) (Nat.zero_le _) (Nat.zero_le _) (fun v9 w9 R_4 => ?_)
      obtain ⟨rfl, rfl⟩ := R_4
      show WW κ 0 0 [(a 0, mO a (upd v 0 (nI 0))), (a 1, aI (kG κ) 800 f1), (a 2, aI (kG κ) 800 f2), (a 3, aI (kG κ) 4800 f3), (a 5, aI (kG κ) 1600 f5), (a 6, aZ (kG κ) 2 f6), (a 7, aI (kG κ) 60 f7), (a 17, aI (kG κ) 12 f17), (a 21, aI (kG κ) 12 f21), (a 22, aI (kG κ) 12 f22), (a 23, aI (kG κ) 12 f23), (a 24, aI (kG κ) 12 f24), (a 25, aI (kG κ) 12 f25), (a 26, aI (kG κ) 12 f26), (a 27, aI (kG κ) 12 f27), (a 28, aI (kG κ) 12 f28), (a 29, aZ (kG κ) 4 f29), (a 31, aI (kG κ) 1300 f31), (a 32, aI (kG κ) 1300 f32), (a 33, aI (kG κ) 1300 f33), (a 34, aI (kG κ) 1300 f34), (a 35, aI (kG κ) 13000 f35), (a 36, aI (kG κ) 606 f36), (a 37, aI (kG κ) 12 f37), (a 38, aI (kG κ) 12 f38), (a 41, aI (kG κ) 64 f41)] 29 [(0, .ref (a 0)), (1, .int (nI 1)), (2, .int qv)] [.int (bC (wi qv 2))]
      refine b_if_ne (tg := 35) (nx := 32) C dX9_set_29 rfl rfl (fun h_5 => ?_) (fun h_5 => ?_)
      · obtain ⟨jv, hjv, rfl⟩ := h_5
        refine w_aload_n (nx := 36) C 0 dX9_set_35 rfl rfl rfl ?_
        refine w_callV (nx := 39) (wr := [(a 2, aI (kG κ) 800 f2), (a 5, aI (kG κ) 1600 f5), (a 6, aZ (kG κ) 2 f6), (a 7, aI (kG κ) 60 f7), (a 17, aI (kG κ) 12 f17), (a 21, aI (kG κ) 12 f21), (a 22, aI (kG κ) 12 f22), (a 23, aI (kG κ) 12 f23), (a 24, aI (kG κ) 12 f24), (a 25, aI (kG κ) 12 f25), (a 26, aI (kG κ) 12 f26), (a 27, aI (kG κ) 12 f27), (a 28, aI (kG κ) 12 f28), (a 29, aZ (kG κ) 4 f29), (a 31, aI (kG κ) 1300 f31), (a 32, aI (kG κ) 1300 f32), (a 33, aI (kG κ) 1300 f33), (a 34, aI (kG κ) 1300 f34), (a 35, aI (kG κ) 13000 f35), (a 36, aI (kG κ) 606 f36), (a 37, aI (kG κ) 12 f37), (a 38, aI (kG κ) 12 f38), (a 41, aI (kG κ) 64 f41)]) (rest := []) C mi_X9_records (c_X9_records _ _ a (upd v 0 (nI 0)) f1 f3 (xH X) (xS X) (hU) (hz6) (hO.2.1) (hUn) (hS) (hO.1)) 0 dX9_set_36 rfl wl_X9_205 rfl rfl rfl (pm_sel [0, 1, 3, 2, 4, 5, 6, 7, 8, 9, 10, 11, 12, 13, 14, 15, 16, 17, 18, 19, 20, 21, 22, 23, 24, 25] 26 (by decide +kernel) rfl rfl) rfl rfl (Nat.le_of_ble_eq_true rfl) (Nat.le_of_ble_eq_true rfl) (Nat.le_of_ble_eq_true rfl) (Nat.zero_le _) (Nat.zero_le _) (fun v9 w9 R_6 => ?_)
        obtain ⟨vR, gR3, rfl, rfl, hRU, hRq, hRn⟩ := R_6
        show WW κ 0 0 [(a 0, mO a vR), (a 1, aI (kG κ) 800 f1), (a 3, aI (kG κ) 4800 gR3), (a 2, aI (kG κ) 800 f2), (a 5, aI (kG κ) 1600 f5), (a 6, aZ (kG κ) 2 f6), (a 7, aI (kG κ) 60 f7), (a 17, aI (kG κ) 12 f17), (a 21, aI (kG κ) 12 f21), (a 22, aI (kG κ) 12 f22), (a 23, aI (kG κ) 12 f23), (a 24, aI (kG κ) 12 f24), (a 25, aI (kG κ) 12 f25), (a 26, aI (kG κ) 12 f26), (a 27, aI (kG κ) 12 f27), (a 28, aI (kG κ) 12 f28), (a 29, aZ (kG κ) 4 f29), (a 31, aI (kG κ) 1300 f31), (a 32, aI (kG κ) 1300 f32), (a 33, aI (kG κ) 1300 f33), (a 34, aI (kG κ) 1300 f34), (a 35, aI (kG κ) 13000 f35), (a 36, aI (kG κ) 606 f36), (a 37, aI (kG κ) 12 f37), (a 38, aI (kG κ) 12 f38), (a 41, aI (kG κ) 64 f41)] 39 [(0, .ref (a 0)), (1, .int (nI 1)), (2, .int (nI jv))] []
        refine w_aload_n (nx := 40) C 0 dX9_set_39 rfl rfl rfl ?_
        refine w_getM (nx := 43) C (.ref (a 1)) 0 1 dX9_set_40 rfl wl_X9_7 rfl (by decide) rfl (mg_1 _ _) ?_
        refine w_iload_n (nx := 44) C 1 dX9_set_43 rfl rfl rfl ?_
        refine w_iald (nx := 45) C (nI (sL (xS X))) 1 1 dX9_set_44 rfl rfl (by decide) rfl (by omega) hS.2.1 ?_
        refine w_istore_n (nx := 46) (lo2 := [(3, .int (nI (sL (xS X)))), (0, .ref (a 0)), (1, .int (nI 1)), (2, .int (nI jv))]) C dX9_set_45 rfl rfl (by decide) rfl ?_
        refine w_aload_n (nx := 47) C 1 dX9_set_46 rfl rfl rfl ?_
        refine w_getM (nx := 50) C (.ref (a 1)) 0 1 dX9_set_47 rfl wl_X9_7 rfl (by decide) rfl (mg_1 _ _) ?_
        refine w_iload_n (nx := 51) C 2 dX9_set_50 rfl rfl rfl ?_
        refine w_iload_n (nx := 52) C 3 dX9_set_51 rfl rfl rfl ?_
        refine w_iast (nx := 53) (ws2 := [(a 0, mO a vR), (a 1, aI (kG κ) 800 (upd f1 1 (nI jv))), (a 3, aI (kG κ) 4800 gR3), (a 2, aI (kG κ) 800 f2), (a 5, aI (kG κ) 1600 f5), (a 6, aZ (kG κ) 2 f6), (a 7, aI (kG κ) 60 f7), (a 17, aI (kG κ) 12 f17), (a 21, aI (kG κ) 12 f21), (a 22, aI (kG κ) 12 f22), (a 23, aI (kG κ) 12 f23), (a 24, aI (kG κ) 12 f24), (a 25, aI (kG κ) 12 f25), (a 26, aI (kG κ) 12 f26), (a 27, aI (kG κ) 12 f27), (a 28, aI (kG κ) 12 f28), (a 29, aZ (kG κ) 4 f29), (a 31, aI (kG κ) 1300 f31), (a 32, aI (kG κ) 1300 f32), (a 33, aI (kG κ) 1300 f33), (a 34, aI (kG κ) 1300 f34), (a 35, aI (kG κ) 13000 f35), (a 36, aI (kG κ) 606 f36), (a 37, aI (kG κ) 12 f37), (a 38, aI (kG κ) 12 f38), (a 41, aI (kG κ) 64 f41)]) C 1 1 dX9_set_52 rfl rfl (by decide) rfl (by omega) rfl ?_
        refine w_iload_n (nx := 54) C 0 dX9_set_53 rfl rfl rfl ?_
        refine ww_sel (l := [(a 0, mO a vR), (a 1, aI (kG κ) 800 (upd f1 1 (nI jv))), (a 2, aI (kG κ) 800 f2), (a 3, aI (kG κ) 4800 gR3), (a 5, aI (kG κ) 1600 f5), (a 6, aZ (kG κ) 2 f6), (a 7, aI (kG κ) 60 f7), (a 17, aI (kG κ) 12 f17), (a 21, aI (kG κ) 12 f21), (a 22, aI (kG κ) 12 f22), (a 23, aI (kG κ) 12 f23), (a 24, aI (kG κ) 12 f24), (a 25, aI (kG κ) 12 f25), (a 26, aI (kG κ) 12 f26), (a 27, aI (kG κ) 12 f27), (a 28, aI (kG κ) 12 f28), (a 29, aZ (kG κ) 4 f29), (a 31, aI (kG κ) 1300 f31), (a 32, aI (kG κ) 1300 f32), (a 33, aI (kG κ) 1300 f33), (a 34, aI (kG κ) 1300 f34), (a 35, aI (kG κ) 13000 f35), (a 36, aI (kG κ) 606 f36), (a 37, aI (kG κ) 12 f37), (a 38, aI (kG κ) 12 f38), (a 41, aI (kG κ) 64 f41)]) (pm_sel [0, 1, 3, 2, 4, 5, 6, 7, 8, 9, 10, 11, 12, 13, 14, 15, 16, 17, 18, 19, 20, 21, 22, 23, 24, 25] 26 (by decide +kernel) rfl rfl) ?_
        have ho9 : o_set X (nI 1) (nI jv) = ((nI (sL (xS X))), ((sD (xS X), jv, (xS X).2.2), kpH (xH X) (xS X), X.2.2)) := by unfold o_set; rw [if_neg (show ¬ (nI 1 = 0 ∧ wi (nI jv) 9) from fun z => absurd z.1 (by decide)), if_pos ⟨rfl, jv, hjv, rfl⟩, tn_nI (show jv < 2 ^ 31 by omega)]
        have hw9 : wfO ((sD (xS X), jv, (xS X).2.2), kpH (xH X) (xS X), X.2.2) := by
          have z9 : wfO (o_set X (nI 1) (nI jv)).2 := w_o_set hO
          rw [ho9] at z9
          exact z9
        refine w_iret (ty := .int) C E dX9_set_54 rfl rfl (Nat.le_refl _) (Nat.le_refl _) ?_
        rw [ho9]
        exact ⟨_, rfl, rfl, _, _, _, _, _, _, _, _, _, _, _, _, _, _, _, _, _, _, _, _, _, _, _, _, _, _, _, rfl, rfl, hw9, (rMS_L hS hO.1), hRU, hRn, hSl, (⟨(hRq 8 (by decide)).trans hPd.1, hPd.2⟩), ((hRq 18 (by decide)).trans h18)⟩
      · have hno := h_5
        refine w_bipush (nx := 34) C (-2) dX9_set_32 rfl (by decide) ?_
        have ho9 : o_set X (nI 1) qv = ((-2), X) := by unfold o_set; rw [if_neg (show ¬ (nI 1 = 0 ∧ wi qv 9) from fun z => absurd z.1 (by decide)), if_neg (fun z => hno z.2)]
        refine w_iret (ty := .int) C E dX9_set_34 rfl rfl (Nat.le_refl _) (Nat.le_refl _) ?_
        rw [ho9]
        exact ⟨_, rfl, rfl, _, _, _, _, _, _, _, _, _, _, _, _, _, _, _, _, _, _, _, _, _, _, _, _, _, _, _, rfl, rfl, hO, hS, hU, hUn, hSl, hPd, h18⟩
    · have hj0 : jq = 0 := by omega
      subst hj0
      show WW κ 0 0 [(a 0, mO a (upd v 0 (nI 0))), (a 1, aI (kG κ) 800 f1), (a 2, aI (kG κ) 800 f2), (a 3, aI (kG κ) 4800 f3), (a 5, aI (kG κ) 1600 f5), (a 6, aZ (kG κ) 2 f6), (a 7, aI (kG κ) 60 f7), (a 17, aI (kG κ) 12 f17), (a 21, aI (kG κ) 12 f21), (a 22, aI (kG κ) 12 f22), (a 23, aI (kG κ) 12 f23), (a 24, aI (kG κ) 12 f24), (a 25, aI (kG κ) 12 f25), (a 26, aI (kG κ) 12 f26), (a 27, aI (kG κ) 12 f27), (a 28, aI (kG κ) 12 f28), (a 29, aZ (kG κ) 4 f29), (a 31, aI (kG κ) 1300 f31), (a 32, aI (kG κ) 1300 f32), (a 33, aI (kG κ) 1300 f33), (a 34, aI (kG κ) 1300 f34), (a 35, aI (kG κ) 13000 f35), (a 36, aI (kG κ) 606 f36), (a 37, aI (kG κ) 12 f37), (a 38, aI (kG κ) 12 f38), (a 41, aI (kG κ) 64 f41)] 20 [(0, .ref (a 0)), (1, .int (nI 0)), (2, .int qv)] [.int (nI 0), .int qv]
      refine w_bipush (nx := 22) C (nI 8) dX9_set_20 rfl (by decide) ?_
      refine w_goto (nx := 26) C dX9_set_22 rfl ?_
      refine w_callS (nx := 29) (wr := [(a 0, mO a (upd v 0 (nI 0))), (a 1, aI (kG κ) 800 f1), (a 2, aI (kG κ) 800 f2), (a 3, aI (kG κ) 4800 f3), (a 5, aI (kG κ) 1600 f5), (a 6, aZ (kG κ) 2 f6), (a 7, aI (kG κ) 60 f7), (a 17, aI (kG κ) 12 f17), (a 21, aI (kG κ) 12 f21), (a 22, aI (kG κ) 12 f22), (a 23, aI (kG κ) 12 f23), (a 24, aI (kG κ) 12 f24), (a 25, aI (kG κ) 12 f25), (a 26, aI (kG κ) 12 f26), (a 27, aI (kG κ) 12 f27), (a 28, aI (kG κ) 12 f28), (a 29, aZ (kG κ) 4 f29), (a 31, aI (kG κ) 1300 f31), (a 32, aI (kG κ) 1300 f32), (a 33, aI (kG κ) 1300 f33), (a 34, aI (kG κ) 1300 f34), (a 35, aI (kG κ) 13000 f35), (a 36, aI (kG κ) 606 f36), (a 37, aI (kG κ) 12 f37), (a 38, aI (kG κ) 12 f38), (a 41, aI (kG κ) 64 f41)]) (rest := []) C ms_X9_in (c_X9_in_w _ _ qv 9 (nI 8) (by decide) (by decide)) dX9_set_26 rfl wl_X9_93 rfl (pm_sel [0, 1, 2, 3, 4, 5, 6, 7, 8, 9, 10, 11, 12, 13, 14, 15, 16, 17, 18, 19, 20, 21, 22, 23, 24, 25] 26 (by decide +kernel) rfl rfl) rfl rfl (Nat.le_of_ble_eq_true rfl) (Nat.le_of_ble_eq_true rfl) (Nat.le_of_ble_eq_true rfl) (Nat.zero_le _) (Nat.zero_le _) (fun v9 w9 R_7 => ?_)
      obtain ⟨rfl, rfl⟩ := R_7
      show WW κ 0 0 [(a 0, mO a (upd v 0 (nI 0))), (a 1, aI (kG κ) 800 f1), (a 2, aI (kG κ) 800 f2), (a 3, aI (kG κ) 4800 f3), (a 5, aI (kG κ) 1600 f5), (a 6, aZ (kG κ) 2 f6), (a 7, aI (kG κ) 60 f7), (a 17, aI (kG κ) 12 f17), (a 21, aI (kG κ) 12 f21), (a 22, aI (kG κ) 12 f22), (a 23, aI (kG κ) 12 f23), (a 24, aI (kG κ) 12 f24), (a 25, aI (kG κ) 12 f25), (a 26, aI (kG κ) 12 f26), (a 27, aI (kG κ) 12 f27), (a 28, aI (kG κ) 12 f28), (a 29, aZ (kG κ) 4 f29), (a 31, aI (kG κ) 1300 f31), (a 32, aI (kG κ) 1300 f32), (a 33, aI (kG κ) 1300 f33), (a 34, aI (kG κ) 1300 f34), (a 35, aI (kG κ) 13000 f35), (a 36, aI (kG κ) 606 f36), (a 37, aI (kG κ) 12 f37), (a 38, aI (kG κ) 12 f38), (a 41, aI (kG κ) 64 f41)] 29 [(0, .ref (a 0)), (1, .int (nI 0)), (2, .int qv)] [.int (bC (wi qv 9))]
      refine b_if_ne (tg := 35) (nx := 32) C dX9_set_29 rfl rfl (fun h_8 => ?_) (fun h_8 => ?_)
      · obtain ⟨jv, hjv, rfl⟩ := h_8
        refine w_aload_n (nx := 36) C 0 dX9_set_35 rfl rfl rfl ?_
        refine w_callV (nx := 39) (wr := [(a 2, aI (kG κ) 800 f2), (a 5, aI (kG κ) 1600 f5), (a 6, aZ (kG κ) 2 f6), (a 7, aI (kG κ) 60 f7), (a 17, aI (kG κ) 12 f17), (a 21, aI (kG κ) 12 f21), (a 22, aI (kG κ) 12 f22), (a 23, aI (kG κ) 12 f23), (a 24, aI (kG κ) 12 f24), (a 25, aI (kG κ) 12 f25), (a 26, aI (kG κ) 12 f26), (a 27, aI (kG κ) 12 f27), (a 28, aI (kG κ) 12 f28), (a 29, aZ (kG κ) 4 f29), (a 31, aI (kG κ) 1300 f31), (a 32, aI (kG κ) 1300 f32), (a 33, aI (kG κ) 1300 f33), (a 34, aI (kG κ) 1300 f34), (a 35, aI (kG κ) 13000 f35), (a 36, aI (kG κ) 606 f36), (a 37, aI (kG κ) 12 f37), (a 38, aI (kG κ) 12 f38), (a 41, aI (kG κ) 64 f41)]) (rest := []) C mi_X9_records (c_X9_records _ _ a (upd v 0 (nI 0)) f1 f3 (xH X) (xS X) (hU) (hz6) (hO.2.1) (hUn) (hS) (hO.1)) 0 dX9_set_36 rfl wl_X9_205 rfl rfl rfl (pm_sel [0, 1, 3, 2, 4, 5, 6, 7, 8, 9, 10, 11, 12, 13, 14, 15, 16, 17, 18, 19, 20, 21, 22, 23, 24, 25] 26 (by decide +kernel) rfl rfl) rfl rfl (Nat.le_of_ble_eq_true rfl) (Nat.le_of_ble_eq_true rfl) (Nat.le_of_ble_eq_true rfl) (Nat.zero_le _) (Nat.zero_le _) (fun v9 w9 R_9 => ?_)
        obtain ⟨vR, gR3, rfl, rfl, hRU, hRq, hRn⟩ := R_9
        show WW κ 0 0 [(a 0, mO a vR), (a 1, aI (kG κ) 800 f1), (a 3, aI (kG κ) 4800 gR3), (a 2, aI (kG κ) 800 f2), (a 5, aI (kG κ) 1600 f5), (a 6, aZ (kG κ) 2 f6), (a 7, aI (kG κ) 60 f7), (a 17, aI (kG κ) 12 f17), (a 21, aI (kG κ) 12 f21), (a 22, aI (kG κ) 12 f22), (a 23, aI (kG κ) 12 f23), (a 24, aI (kG κ) 12 f24), (a 25, aI (kG κ) 12 f25), (a 26, aI (kG κ) 12 f26), (a 27, aI (kG κ) 12 f27), (a 28, aI (kG κ) 12 f28), (a 29, aZ (kG κ) 4 f29), (a 31, aI (kG κ) 1300 f31), (a 32, aI (kG κ) 1300 f32), (a 33, aI (kG κ) 1300 f33), (a 34, aI (kG κ) 1300 f34), (a 35, aI (kG κ) 13000 f35), (a 36, aI (kG κ) 606 f36), (a 37, aI (kG κ) 12 f37), (a 38, aI (kG κ) 12 f38), (a 41, aI (kG κ) 64 f41)] 39 [(0, .ref (a 0)), (1, .int (nI 0)), (2, .int (nI jv))] []
        refine w_aload_n (nx := 40) C 0 dX9_set_39 rfl rfl rfl ?_
        refine w_getM (nx := 43) C (.ref (a 1)) 0 1 dX9_set_40 rfl wl_X9_7 rfl (by decide) rfl (mg_1 _ _) ?_
        refine w_iload_n (nx := 44) C 1 dX9_set_43 rfl rfl rfl ?_
        refine w_iald (nx := 45) C (nI (sD (xS X))) 1 0 dX9_set_44 rfl rfl (by decide) rfl (by omega) hS.1 ?_
        refine w_istore_n (nx := 46) (lo2 := [(3, .int (nI (sD (xS X)))), (0, .ref (a 0)), (1, .int (nI 0)), (2, .int (nI jv))]) C dX9_set_45 rfl rfl (by decide) rfl ?_
        refine w_aload_n (nx := 47) C 1 dX9_set_46 rfl rfl rfl ?_
        refine w_getM (nx := 50) C (.ref (a 1)) 0 1 dX9_set_47 rfl wl_X9_7 rfl (by decide) rfl (mg_1 _ _) ?_
        refine w_iload_n (nx := 51) C 2 dX9_set_50 rfl rfl rfl ?_
        refine w_iload_n (nx := 52) C 3 dX9_set_51 rfl rfl rfl ?_
        refine w_iast (nx := 53) (ws2 := [(a 0, mO a vR), (a 1, aI (kG κ) 800 (upd f1 0 (nI jv))), (a 3, aI (kG κ) 4800 gR3), (a 2, aI (kG κ) 800 f2), (a 5, aI (kG κ) 1600 f5), (a 6, aZ (kG κ) 2 f6), (a 7, aI (kG κ) 60 f7), (a 17, aI (kG κ) 12 f17), (a 21, aI (kG κ) 12 f21), (a 22, aI (kG κ) 12 f22), (a 23, aI (kG κ) 12 f23), (a 24, aI (kG κ) 12 f24), (a 25, aI (kG κ) 12 f25), (a 26, aI (kG κ) 12 f26), (a 27, aI (kG κ) 12 f27), (a 28, aI (kG κ) 12 f28), (a 29, aZ (kG κ) 4 f29), (a 31, aI (kG κ) 1300 f31), (a 32, aI (kG κ) 1300 f32), (a 33, aI (kG κ) 1300 f33), (a 34, aI (kG κ) 1300 f34), (a 35, aI (kG κ) 13000 f35), (a 36, aI (kG κ) 606 f36), (a 37, aI (kG κ) 12 f37), (a 38, aI (kG κ) 12 f38), (a 41, aI (kG κ) 64 f41)]) C 1 0 dX9_set_52 rfl rfl (by decide) rfl (by omega) rfl ?_
        refine w_iload_n (nx := 54) C 0 dX9_set_53 rfl rfl rfl ?_
        refine ww_sel (l := [(a 0, mO a vR), (a 1, aI (kG κ) 800 (upd f1 0 (nI jv))), (a 2, aI (kG κ) 800 f2), (a 3, aI (kG κ) 4800 gR3), (a 5, aI (kG κ) 1600 f5), (a 6, aZ (kG κ) 2 f6), (a 7, aI (kG κ) 60 f7), (a 17, aI (kG κ) 12 f17), (a 21, aI (kG κ) 12 f21), (a 22, aI (kG κ) 12 f22), (a 23, aI (kG κ) 12 f23), (a 24, aI (kG κ) 12 f24), (a 25, aI (kG κ) 12 f25), (a 26, aI (kG κ) 12 f26), (a 27, aI (kG κ) 12 f27), (a 28, aI (kG κ) 12 f28), (a 29, aZ (kG κ) 4 f29), (a 31, aI (kG κ) 1300 f31), (a 32, aI (kG κ) 1300 f32), (a 33, aI (kG κ) 1300 f33), (a 34, aI (kG κ) 1300 f34), (a 35, aI (kG κ) 13000 f35), (a 36, aI (kG κ) 606 f36), (a 37, aI (kG κ) 12 f37), (a 38, aI (kG κ) 12 f38), (a 41, aI (kG κ) 64 f41)]) (pm_sel [0, 1, 3, 2, 4, 5, 6, 7, 8, 9, 10, 11, 12, 13, 14, 15, 16, 17, 18, 19, 20, 21, 22, 23, 24, 25] 26 (by decide +kernel) rfl rfl) ?_
        have ho9 : o_set X (nI 0) (nI jv) = ((nI (sD (xS X))), ((jv, (xS X).2), kpH (xH X) (xS X), X.2.2)) := by unfold o_set; rw [if_pos ⟨rfl, jv, hjv, rfl⟩, tn_nI (show jv < 2 ^ 31 by omega)]
        have hw9 : wfO ((jv, (xS X).2), kpH (xH X) (xS X), X.2.2) := by
          have z9 : wfO (o_set X (nI 0) (nI jv)).2 := w_o_set hO
          rw [ho9] at z9
          exact z9
        refine w_iret (ty := .int) C E dX9_set_54 rfl rfl (Nat.le_refl _) (Nat.le_refl _) ?_
        rw [ho9]
        exact ⟨_, rfl, rfl, _, _, _, _, _, _, _, _, _, _, _, _, _, _, _, _, _, _, _, _, _, _, _, _, _, _, _, rfl, rfl, hw9, (rMS_D hS hO.1), hRU, hRn, hSl, (⟨(hRq 8 (by decide)).trans hPd.1, hPd.2⟩), ((hRq 18 (by decide)).trans h18)⟩
      · have hno := h_8
        refine w_bipush (nx := 34) C (-2) dX9_set_32 rfl (by decide) ?_
        have ho9 : o_set X (nI 0) qv = ((-2), X) := by unfold o_set; rw [if_neg (fun z => hno z.2), if_neg (show ¬ (nI 0 = 1 ∧ wi qv 2) from fun z => absurd z.1 (by decide))]
        refine w_iret (ty := .int) C E dX9_set_34 rfl rfl (Nat.le_refl _) (Nat.le_refl _) ?_
        rw [ho9]
        exact ⟨_, rfl, rfl, _, _, _, _, _, _, _, _, _, _, _, _, _, _, _, _, _, _, _, _, _, _, _, _, _, _, _, rfl, rfl, hO, hS, hU, hUn, hSl, hPd, h18⟩
set_option maxHeartbeats 4000000 in
set_option maxRecDepth 100000 in
theorem c_X9_trigger (l : Launch) (G : GG) (h : Nat) (w : va_W) (X : SX) (qt : Int32) (qk : Int32) (qs : Int32) (qb : Int32) (hRX : RMX G h w X) : MT l G yX9_trigger cX9_trigger 6 (some .int) 3 0 0 [.ref h, .int qt, .int qk, .int qs, .int qb] ((w)) (fun v9 ws9 => ∃ (w2 : va_W), v9 = some (.int ((o_trigger X qt qk qs qb).1)) ∧ ws9 = ((w2)) ∧ RMX G h w2 (o_trigger X qt qk qs qb).2) := by
  refine RMX_elim hRX (fun a v f1 f2 f3 f5 f6 f7 f17 f21 f22 f23 f24 f25 f26 f27 f28 f29 f31 f32 f33 f34 f35 f36 f37 f38 f41 hw9 hh hO hS hU hUn hSl hPd h18 => ?_)
  subst hw9
  subst hh
  refine MT.of RX9 [(0, .ref (a 0)), (1, .int qt), (2, .int qk), (3, .int qs), (4, .int qb)] (by decide +kernel) rfl rfl (Nat.le_of_ble_eq_true rfl) (fun κ C E hl9 hG9 hnm9 => ?_)
  subst hl9; subst hG9
  have hn12 := hO.1.2.2.2.1.1
  have hj100 := hO.1.2.2.2.2
  have hz6 := hO.2.1.1
  have hp60 := hO.2.2.2.1
  have hd8 := hO.1.1
  have hl1 := hO.1.2.1
  have hzT := hO.1.2.2.1
  refine w_aload_n (nx := 1) C 0 dX9_trigger_0 rfl rfl rfl ?_
  refine w_iconst (nx := 2) C (nI 0) dX9_trigger_1 rfl (by decide) ?_
  refine w_putM (nx := 5) (ws2 := [(a 0, mO a (upd v 0 (nI 0))), (a 1, aI (kG κ) 800 f1), (a 2, aI (kG κ) 800 f2), (a 3, aI (kG κ) 4800 f3), (a 5, aI (kG κ) 1600 f5), (a 6, aZ (kG κ) 2 f6), (a 7, aI (kG κ) 60 f7), (a 17, aI (kG κ) 12 f17), (a 21, aI (kG κ) 12 f21), (a 22, aI (kG κ) 12 f22), (a 23, aI (kG κ) 12 f23), (a 24, aI (kG κ) 12 f24), (a 25, aI (kG κ) 12 f25), (a 26, aI (kG κ) 12 f26), (a 27, aI (kG κ) 12 f27), (a 28, aI (kG κ) 12 f28), (a 29, aZ (kG κ) 4 f29), (a 31, aI (kG κ) 1300 f31), (a 32, aI (kG κ) 1300 f32), (a 33, aI (kG κ) 1300 f33), (a 34, aI (kG κ) 1300 f34), (a 35, aI (kG κ) 13000 f35), (a 36, aI (kG κ) 606 f36), (a 37, aI (kG κ) 12 f37), (a 38, aI (kG κ) 12 f38), (a 41, aI (kG κ) 64 f41)]) C 0 0 dX9_trigger_2 rfl wl_X9_90 rfl (by decide) rfl rfl rfl (ms_0 _ _ _) rfl ?_
  refine w_iload_n (nx := 6) C 1 dX9_trigger_5 rfl rfl rfl ?_
  refine w_callS (nx := 9) (wr := [(a 0, mO a (upd v 0 (nI 0))), (a 1, aI (kG κ) 800 f1), (a 2, aI (kG κ) 800 f2), (a 3, aI (kG κ) 4800 f3), (a 5, aI (kG κ) 1600 f5), (a 6, aZ (kG κ) 2 f6), (a 7, aI (kG κ) 60 f7), (a 17, aI (kG κ) 12 f17), (a 21, aI (kG κ) 12 f21), (a 22, aI (kG κ) 12 f22), (a 23, aI (kG κ) 12 f23), (a 24, aI (kG κ) 12 f24), (a 25, aI (kG κ) 12 f25), (a 26, aI (kG κ) 12 f26), (a 27, aI (kG κ) 12 f27), (a 28, aI (kG κ) 12 f28), (a 29, aZ (kG κ) 4 f29), (a 31, aI (kG κ) 1300 f31), (a 32, aI (kG κ) 1300 f32), (a 33, aI (kG κ) 1300 f33), (a 34, aI (kG κ) 1300 f34), (a 35, aI (kG κ) 13000 f35), (a 36, aI (kG κ) 606 f36), (a 37, aI (kG κ) 12 f37), (a 38, aI (kG κ) 12 f38), (a 41, aI (kG κ) 64 f41)]) (rest := []) C ms_X9_isTable (c_X9_isTable _ _ qt) dX9_trigger_6 rfl wl_X9_201 rfl (pm_sel [0, 1, 2, 3, 4, 5, 6, 7, 8, 9, 10, 11, 12, 13, 14, 15, 16, 17, 18, 19, 20, 21, 22, 23, 24, 25] 26 (by decide +kernel) rfl rfl) rfl rfl (Nat.le_of_ble_eq_true rfl) (Nat.le_of_ble_eq_true rfl) (Nat.le_of_ble_eq_true rfl) (Nat.zero_le _) (Nat.zero_le _) (fun v9 w9 R_1 => ?_)
  obtain ⟨rfl, rfl⟩ := R_1
  show WW κ 0 0 [(a 0, mO a (upd v 0 (nI 0))), (a 1, aI (kG κ) 800 f1), (a 2, aI (kG κ) 800 f2), (a 3, aI (kG κ) 4800 f3), (a 5, aI (kG κ) 1600 f5), (a 6, aZ (kG κ) 2 f6), (a 7, aI (kG κ) 60 f7), (a 17, aI (kG κ) 12 f17), (a 21, aI (kG κ) 12 f21), (a 22, aI (kG κ) 12 f22), (a 23, aI (kG κ) 12 f23), (a 24, aI (kG κ) 12 f24), (a 25, aI (kG κ) 12 f25), (a 26, aI (kG κ) 12 f26), (a 27, aI (kG κ) 12 f27), (a 28, aI (kG κ) 12 f28), (a 29, aZ (kG κ) 4 f29), (a 31, aI (kG κ) 1300 f31), (a 32, aI (kG κ) 1300 f32), (a 33, aI (kG κ) 1300 f33), (a 34, aI (kG κ) 1300 f34), (a 35, aI (kG κ) 13000 f35), (a 36, aI (kG κ) 606 f36), (a 37, aI (kG κ) 12 f37), (a 38, aI (kG κ) 12 f38), (a 41, aI (kG κ) 64 f41)] 9 [(0, .ref (a 0)), (1, .int qt), (2, .int qk), (3, .int qs), (4, .int qb)] [.int (bC (wi qt 4))]
  refine b_if_ne (tg := 14) (nx := 12) C dX9_trigger_9 rfl rfl (fun h_2 => ?_) (fun h_2 => ?_)
  · obtain ⟨jt, hjt, rfl⟩ := h_2
    refine w_iload_n (nx := 15) C 2 dX9_trigger_14 rfl rfl rfl ?_
    refine w_iconst (nx := 16) C (nI 0) dX9_trigger_15 rfl (by decide) ?_
    refine w_iconst (nx := 17) C (nI 2) dX9_trigger_16 rfl (by decide) ?_
    refine w_callS (nx := 20) (wr := [(a 0, mO a (upd v 0 (nI 0))), (a 1, aI (kG κ) 800 f1), (a 2, aI (kG κ) 800 f2), (a 3, aI (kG κ) 4800 f3), (a 5, aI (kG κ) 1600 f5), (a 6, aZ (kG κ) 2 f6), (a 7, aI (kG κ) 60 f7), (a 17, aI (kG κ) 12 f17), (a 21, aI (kG κ) 12 f21), (a 22, aI (kG κ) 12 f22), (a 23, aI (kG κ) 12 f23), (a 24, aI (kG κ) 12 f24), (a 25, aI (kG κ) 12 f25), (a 26, aI (kG κ) 12 f26), (a 27, aI (kG κ) 12 f27), (a 28, aI (kG κ) 12 f28), (a 29, aZ (kG κ) 4 f29), (a 31, aI (kG κ) 1300 f31), (a 32, aI (kG κ) 1300 f32), (a 33, aI (kG κ) 1300 f33), (a 34, aI (kG κ) 1300 f34), (a 35, aI (kG κ) 13000 f35), (a 36, aI (kG κ) 606 f36), (a 37, aI (kG κ) 12 f37), (a 38, aI (kG κ) 12 f38), (a 41, aI (kG κ) 64 f41)]) (rest := []) C ms_X9_in (c_X9_in_w _ _ qk 3 (nI 2) (by decide) (by decide)) dX9_trigger_17 rfl wl_X9_93 rfl (pm_sel [0, 1, 2, 3, 4, 5, 6, 7, 8, 9, 10, 11, 12, 13, 14, 15, 16, 17, 18, 19, 20, 21, 22, 23, 24, 25] 26 (by decide +kernel) rfl rfl) rfl rfl (Nat.le_of_ble_eq_true rfl) (Nat.le_of_ble_eq_true rfl) (Nat.le_of_ble_eq_true rfl) (Nat.zero_le _) (Nat.zero_le _) (fun v9 w9 R_3 => ?_)
    obtain ⟨rfl, rfl⟩ := R_3
    show WW κ 0 0 [(a 0, mO a (upd v 0 (nI 0))), (a 1, aI (kG κ) 800 f1), (a 2, aI (kG κ) 800 f2), (a 3, aI (kG κ) 4800 f3), (a 5, aI (kG κ) 1600 f5), (a 6, aZ (kG κ) 2 f6), (a 7, aI (kG κ) 60 f7), (a 17, aI (kG κ) 12 f17), (a 21, aI (kG κ) 12 f21), (a 22, aI (kG κ) 12 f22), (a 23, aI (kG κ) 12 f23), (a 24, aI (kG κ) 12 f24), (a 25, aI (kG κ) 12 f25), (a 26, aI (kG κ) 12 f26), (a 27, aI (kG κ) 12 f27), (a 28, aI (kG κ) 12 f28), (a 29, aZ (kG κ) 4 f29), (a 31, aI (kG κ) 1300 f31), (a 32, aI (kG κ) 1300 f32), (a 33, aI (kG κ) 1300 f33), (a 34, aI (kG κ) 1300 f34), (a 35, aI (kG κ) 13000 f35), (a 36, aI (kG κ) 606 f36), (a 37, aI (kG κ) 12 f37), (a 38, aI (kG κ) 12 f38), (a 41, aI (kG κ) 64 f41)] 20 [(0, .ref (a 0)), (1, .int (nI jt)), (2, .int qk), (3, .int qs), (4, .int qb)] [.int (bC (wi qk 3))]
    refine b_if_eq (tg := 44) (nx := 23) C dX9_trigger_20 rfl rfl (fun h_4 => ?_) (fun h_4 => ?_)
    · have hno := h_4
      refine w_bipush (nx := 46) C (-2) dX9_trigger_44 rfl (by decide) ?_
      have ho9 : o_trigger X (nI jt) qk qs qb = ((-2), X) := by unfold o_trigger; rw [if_neg (fun z => z ⟨jt, hjt, rfl⟩), if_pos (fun z => hno z.1)]
      refine w_iret (ty := .int) C E dX9_trigger_46 rfl rfl (Nat.le_refl _) (Nat.le_refl _) ?_
      rw [ho9]
      exact ⟨_, rfl, rfl, _, _, _, _, _, _, _, _, _, _, _, _, _, _, _, _, _, _, _, _, _, _, _, _, _, _, _, rfl, rfl, hO, hS, hU, hUn, hSl, hPd, h18⟩
    · obtain ⟨jk, hjk, rfl⟩ := h_4
      refine w_iload_n (nx := 24) C 3 dX9_trigger_23 rfl rfl rfl ?_
      refine w_iconst (nx := 25) C (nI 0) dX9_trigger_24 rfl (by decide) ?_
      refine w_iconst (nx := 26) C (nI 2) dX9_trigger_25 rfl (by decide) ?_
      refine w_callS (nx := 29) (wr := [(a 0, mO a (upd v 0 (nI 0))), (a 1, aI (kG κ) 800 f1), (a 2, aI (kG κ) 800 f2), (a 3, aI (kG κ) 4800 f3), (a 5, aI (kG κ) 1600 f5), (a 6, aZ (kG κ) 2 f6), (a 7, aI (kG κ) 60 f7), (a 17, aI (kG κ) 12 f17), (a 21, aI (kG κ) 12 f21), (a 22, aI (kG κ) 12 f22), (a 23, aI (kG κ) 12 f23), (a 24, aI (kG κ) 12 f24), (a 25, aI (kG κ) 12 f25), (a 26, aI (kG κ) 12 f26), (a 27, aI (kG κ) 12 f27), (a 28, aI (kG κ) 12 f28), (a 29, aZ (kG κ) 4 f29), (a 31, aI (kG κ) 1300 f31), (a 32, aI (kG κ) 1300 f32), (a 33, aI (kG κ) 1300 f33), (a 34, aI (kG κ) 1300 f34), (a 35, aI (kG κ) 13000 f35), (a 36, aI (kG κ) 606 f36), (a 37, aI (kG κ) 12 f37), (a 38, aI (kG κ) 12 f38), (a 41, aI (kG κ) 64 f41)]) (rest := []) C ms_X9_in (c_X9_in_w _ _ qs 3 (nI 2) (by decide) (by decide)) dX9_trigger_26 rfl wl_X9_93 rfl (pm_sel [0, 1, 2, 3, 4, 5, 6, 7, 8, 9, 10, 11, 12, 13, 14, 15, 16, 17, 18, 19, 20, 21, 22, 23, 24, 25] 26 (by decide +kernel) rfl rfl) rfl rfl (Nat.le_of_ble_eq_true rfl) (Nat.le_of_ble_eq_true rfl) (Nat.le_of_ble_eq_true rfl) (Nat.zero_le _) (Nat.zero_le _) (fun v9 w9 R_5 => ?_)
      obtain ⟨rfl, rfl⟩ := R_5
      show WW κ 0 0 [(a 0, mO a (upd v 0 (nI 0))), (a 1, aI (kG κ) 800 f1), (a 2, aI (kG κ) 800 f2), (a 3, aI (kG κ) 4800 f3), (a 5, aI (kG κ) 1600 f5), (a 6, aZ (kG κ) 2 f6), (a 7, aI (kG κ) 60 f7), (a 17, aI (kG κ) 12 f17), (a 21, aI (kG κ) 12 f21), (a 22, aI (kG κ) 12 f22), (a 23, aI (kG κ) 12 f23), (a 24, aI (kG κ) 12 f24), (a 25, aI (kG κ) 12 f25), (a 26, aI (kG κ) 12 f26), (a 27, aI (kG κ) 12 f27), (a 28, aI (kG κ) 12 f28), (a 29, aZ (kG κ) 4 f29), (a 31, aI (kG κ) 1300 f31), (a 32, aI (kG κ) 1300 f32), (a 33, aI (kG κ) 1300 f33), (a 34, aI (kG κ) 1300 f34), (a 35, aI (kG κ) 13000 f35), (a 36, aI (kG κ) 606 f36), (a 37, aI (kG κ) 12 f37), (a 38, aI (kG κ) 12 f38), (a 41, aI (kG κ) 64 f41)] 29 [(0, .ref (a 0)), (1, .int (nI jt)), (2, .int (nI jk)), (3, .int qs), (4, .int qb)] [.int (bC (wi qs 3))]
      refine b_if_eq (tg := 44) (nx := 32) C dX9_trigger_29 rfl rfl (fun h_6 => ?_) (fun h_6 => ?_)
      · have hno := h_6
        refine w_bipush (nx := 46) C (-2) dX9_trigger_44 rfl (by decide) ?_
        have ho9 : o_trigger X (nI jt) (nI jk) qs qb = ((-2), X) := by unfold o_trigger; rw [if_neg (fun z => z ⟨jt, hjt, rfl⟩), if_pos (fun z => hno z.2.1)]
        refine w_iret (ty := .int) C E dX9_trigger_46 rfl rfl (Nat.le_refl _) (Nat.le_refl _) ?_
        rw [ho9]
        exact ⟨_, rfl, rfl, _, _, _, _, _, _, _, _, _, _, _, _, _, _, _, _, _, _, _, _, _, _, _, _, _, _, _, rfl, rfl, hO, hS, hU, hUn, hSl, hPd, h18⟩
      · obtain ⟨js, hjs, rfl⟩ := h_6
        refine w_iload (nx := 34) C 4 dX9_trigger_32 rfl rfl ?_
        refine w_iconst (nx := 35) C (nI 0) dX9_trigger_34 rfl (by decide) ?_
        refine w_sipush (nx := 38) C (nI 999) dX9_trigger_35 rfl (by decide) ?_
        refine w_callS (nx := 41) (wr := [(a 0, mO a (upd v 0 (nI 0))), (a 1, aI (kG κ) 800 f1), (a 2, aI (kG κ) 800 f2), (a 3, aI (kG κ) 4800 f3), (a 5, aI (kG κ) 1600 f5), (a 6, aZ (kG κ) 2 f6), (a 7, aI (kG κ) 60 f7), (a 17, aI (kG κ) 12 f17), (a 21, aI (kG κ) 12 f21), (a 22, aI (kG κ) 12 f22), (a 23, aI (kG κ) 12 f23), (a 24, aI (kG κ) 12 f24), (a 25, aI (kG κ) 12 f25), (a 26, aI (kG κ) 12 f26), (a 27, aI (kG κ) 12 f27), (a 28, aI (kG κ) 12 f28), (a 29, aZ (kG κ) 4 f29), (a 31, aI (kG κ) 1300 f31), (a 32, aI (kG κ) 1300 f32), (a 33, aI (kG κ) 1300 f33), (a 34, aI (kG κ) 1300 f34), (a 35, aI (kG κ) 13000 f35), (a 36, aI (kG κ) 606 f36), (a 37, aI (kG κ) 12 f37), (a 38, aI (kG κ) 12 f38), (a 41, aI (kG κ) 64 f41)]) (rest := []) C ms_X9_in (c_X9_in_w _ _ qb 1000 (nI 999) (by decide) (by decide)) dX9_trigger_38 rfl wl_X9_93 rfl (pm_sel [0, 1, 2, 3, 4, 5, 6, 7, 8, 9, 10, 11, 12, 13, 14, 15, 16, 17, 18, 19, 20, 21, 22, 23, 24, 25] 26 (by decide +kernel) rfl rfl) rfl rfl (Nat.le_of_ble_eq_true rfl) (Nat.le_of_ble_eq_true rfl) (Nat.le_of_ble_eq_true rfl) (Nat.zero_le _) (Nat.zero_le _) (fun v9 w9 R_7 => ?_)
        obtain ⟨rfl, rfl⟩ := R_7
        show WW κ 0 0 [(a 0, mO a (upd v 0 (nI 0))), (a 1, aI (kG κ) 800 f1), (a 2, aI (kG κ) 800 f2), (a 3, aI (kG κ) 4800 f3), (a 5, aI (kG κ) 1600 f5), (a 6, aZ (kG κ) 2 f6), (a 7, aI (kG κ) 60 f7), (a 17, aI (kG κ) 12 f17), (a 21, aI (kG κ) 12 f21), (a 22, aI (kG κ) 12 f22), (a 23, aI (kG κ) 12 f23), (a 24, aI (kG κ) 12 f24), (a 25, aI (kG κ) 12 f25), (a 26, aI (kG κ) 12 f26), (a 27, aI (kG κ) 12 f27), (a 28, aI (kG κ) 12 f28), (a 29, aZ (kG κ) 4 f29), (a 31, aI (kG κ) 1300 f31), (a 32, aI (kG κ) 1300 f32), (a 33, aI (kG κ) 1300 f33), (a 34, aI (kG κ) 1300 f34), (a 35, aI (kG κ) 13000 f35), (a 36, aI (kG κ) 606 f36), (a 37, aI (kG κ) 12 f37), (a 38, aI (kG κ) 12 f38), (a 41, aI (kG κ) 64 f41)] 41 [(0, .ref (a 0)), (1, .int (nI jt)), (2, .int (nI jk)), (3, .int (nI js)), (4, .int qb)] [.int (bC (wi qb 1000))]
        refine b_if_ne (tg := 47) (nx := 44) C dX9_trigger_41 rfl rfl (fun h_8 => ?_) (fun h_8 => ?_)
        · obtain ⟨jb, hjb, rfl⟩ := h_8
          refine w_aload_n (nx := 48) C 0 dX9_trigger_47 rfl rfl rfl ?_
          refine w_getM (nx := 51) C (.ref (a 1)) 0 1 dX9_trigger_48 rfl wl_X9_7 rfl (by decide) rfl (mg_1 _ _) ?_
          refine w_bipush (nx := 53) C (nI 102) dX9_trigger_51 rfl (by decide) ?_
          refine w_iald (nx := 54) C (nI ((sR (xS X)).1)) 1 102 dX9_trigger_53 rfl rfl (by decide) rfl (by omega) hS.2.2.2.1.1 ?_
          refine w_bipush (nx := 56) C (nI 12) dX9_trigger_54 rfl (by decide) ?_
          refine n_icmp_ne (tg := 62) (nx := 59) C dX9_trigger_56 rfl rfl (by omega) (by omega) (fun h_9 => ?_) (fun h_9 => ?_)
          · refine w_aload_n (nx := 63) C 0 dX9_trigger_62 rfl rfl rfl ?_
            refine w_callV (nx := 66) (wr := [(a 2, aI (kG κ) 800 f2), (a 5, aI (kG κ) 1600 f5), (a 6, aZ (kG κ) 2 f6), (a 7, aI (kG κ) 60 f7), (a 17, aI (kG κ) 12 f17), (a 21, aI (kG κ) 12 f21), (a 22, aI (kG κ) 12 f22), (a 23, aI (kG κ) 12 f23), (a 24, aI (kG κ) 12 f24), (a 25, aI (kG κ) 12 f25), (a 26, aI (kG κ) 12 f26), (a 27, aI (kG κ) 12 f27), (a 28, aI (kG κ) 12 f28), (a 29, aZ (kG κ) 4 f29), (a 31, aI (kG κ) 1300 f31), (a 32, aI (kG κ) 1300 f32), (a 33, aI (kG κ) 1300 f33), (a 34, aI (kG κ) 1300 f34), (a 35, aI (kG κ) 13000 f35), (a 36, aI (kG κ) 606 f36), (a 37, aI (kG κ) 12 f37), (a 38, aI (kG κ) 12 f38), (a 41, aI (kG κ) 64 f41)]) (rest := []) C mi_X9_records (c_X9_records _ _ a (upd v 0 (nI 0)) f1 f3 (xH X) (xS X) (hU) (hz6) (hO.2.1) (hUn) (hS) (hO.1)) 0 dX9_trigger_63 rfl wl_X9_205 rfl rfl rfl (pm_sel [0, 1, 3, 2, 4, 5, 6, 7, 8, 9, 10, 11, 12, 13, 14, 15, 16, 17, 18, 19, 20, 21, 22, 23, 24, 25] 26 (by decide +kernel) rfl rfl) rfl rfl (Nat.le_of_ble_eq_true rfl) (Nat.le_of_ble_eq_true rfl) (Nat.le_of_ble_eq_true rfl) (Nat.zero_le _) (Nat.zero_le _) (fun v9 w9 R_10 => ?_)
            obtain ⟨vR, gR3, rfl, rfl, hRU, hRq, hRn⟩ := R_10
            show WW κ 0 0 [(a 0, mO a vR), (a 1, aI (kG κ) 800 f1), (a 3, aI (kG κ) 4800 gR3), (a 2, aI (kG κ) 800 f2), (a 5, aI (kG κ) 1600 f5), (a 6, aZ (kG κ) 2 f6), (a 7, aI (kG κ) 60 f7), (a 17, aI (kG κ) 12 f17), (a 21, aI (kG κ) 12 f21), (a 22, aI (kG κ) 12 f22), (a 23, aI (kG κ) 12 f23), (a 24, aI (kG κ) 12 f24), (a 25, aI (kG κ) 12 f25), (a 26, aI (kG κ) 12 f26), (a 27, aI (kG κ) 12 f27), (a 28, aI (kG κ) 12 f28), (a 29, aZ (kG κ) 4 f29), (a 31, aI (kG κ) 1300 f31), (a 32, aI (kG κ) 1300 f32), (a 33, aI (kG κ) 1300 f33), (a 34, aI (kG κ) 1300 f34), (a 35, aI (kG κ) 13000 f35), (a 36, aI (kG κ) 606 f36), (a 37, aI (kG κ) 12 f37), (a 38, aI (kG κ) 12 f38), (a 41, aI (kG κ) 64 f41)] 66 [(0, .ref (a 0)), (1, .int (nI jt)), (2, .int (nI jk)), (3, .int (nI js)), (4, .int (nI jb))] []
            refine w_bipush (nx := 68) C (nI 103) dX9_trigger_66 rfl (by decide) ?_
            refine w_bipush (nx := 70) C (nI 8) dX9_trigger_68 rfl (by decide) ?_
            refine w_aload_n (nx := 71) C 0 dX9_trigger_70 rfl rfl rfl ?_
            refine w_getM (nx := 74) C (.ref (a 1)) 0 1 dX9_trigger_71 rfl wl_X9_7 rfl (by decide) rfl (mg_1 _ _) ?_
            refine w_bipush (nx := 76) C (nI 102) dX9_trigger_74 rfl (by decide) ?_
            refine w_iald (nx := 77) C (nI ((sR (xS X)).1)) 1 102 dX9_trigger_76 rfl rfl (by decide) rfl (by omega) hS.2.2.2.1.1 ?_
            refine w_imul (nx := 78) C (nI (8 * ((sR (xS X)).1))) dX9_trigger_77 rfl (pk_mul _ _) ?_
            refine w_iadd (nx := 79) C (nI (103 + 8 * ((sR (xS X)).1))) dX9_trigger_78 rfl (nI_add _ _) ?_
            refine w_istore (nx := 81) (lo2 := [(5, .int (nI (103 + 8 * ((sR (xS X)).1)))), (0, .ref (a 0)), (1, .int (nI jt)), (2, .int (nI jk)), (3, .int (nI js)), (4, .int (nI jb))]) C dX9_trigger_79 rfl (by decide) rfl ?_
            refine w_aload_n (nx := 82) C 1 dX9_trigger_81 rfl rfl rfl ?_
            refine w_getM (nx := 85) C (.ref (a 1)) 0 1 dX9_trigger_82 rfl wl_X9_7 rfl (by decide) rfl (mg_1 _ _) ?_
            refine w_iload (nx := 87) C 0 dX9_trigger_85 rfl rfl ?_
            refine w_iconst (nx := 88) C (nI 0) dX9_trigger_87 rfl (by decide) ?_
            refine w_iadd (nx := 89) C (nI (103 + 8 * ((sR (xS X)).1) + 0)) dX9_trigger_88 rfl (nI_add _ _) ?_
            refine w_iload_n (nx := 90) C 2 dX9_trigger_89 rfl rfl rfl ?_
            refine w_iast (nx := 91) (ws2 := [(a 0, mO a vR), (a 1, aI (kG κ) 800 (upd f1 (103 + 8 * ((sR (xS X)).1) + 0) (nI jt))), (a 3, aI (kG κ) 4800 gR3), (a 2, aI (kG κ) 800 f2), (a 5, aI (kG κ) 1600 f5), (a 6, aZ (kG κ) 2 f6), (a 7, aI (kG κ) 60 f7), (a 17, aI (kG κ) 12 f17), (a 21, aI (kG κ) 12 f21), (a 22, aI (kG κ) 12 f22), (a 23, aI (kG κ) 12 f23), (a 24, aI (kG κ) 12 f24), (a 25, aI (kG κ) 12 f25), (a 26, aI (kG κ) 12 f26), (a 27, aI (kG κ) 12 f27), (a 28, aI (kG κ) 12 f28), (a 29, aZ (kG κ) 4 f29), (a 31, aI (kG κ) 1300 f31), (a 32, aI (kG κ) 1300 f32), (a 33, aI (kG κ) 1300 f33), (a 34, aI (kG κ) 1300 f34), (a 35, aI (kG κ) 13000 f35), (a 36, aI (kG κ) 606 f36), (a 37, aI (kG κ) 12 f37), (a 38, aI (kG κ) 12 f38), (a 41, aI (kG κ) 64 f41)]) C 1 (103 + 8 * ((sR (xS X)).1) + 0) dX9_trigger_90 rfl rfl (by decide) rfl (by omega) rfl ?_
            refine w_aload_n (nx := 92) C 1 dX9_trigger_91 rfl rfl rfl ?_
            refine w_getM (nx := 95) C (.ref (a 1)) 0 1 dX9_trigger_92 rfl wl_X9_7 rfl (by decide) rfl (mg_1 _ _) ?_
            refine w_iload (nx := 97) C 0 dX9_trigger_95 rfl rfl ?_
            refine w_iconst (nx := 98) C (nI 1) dX9_trigger_97 rfl (by decide) ?_
            refine w_iadd (nx := 99) C (nI (103 + 8 * ((sR (xS X)).1) + 1)) dX9_trigger_98 rfl (nI_add _ _) ?_
            refine w_iload_n (nx := 100) C 3 dX9_trigger_99 rfl rfl rfl ?_
            refine w_iast (nx := 101) (ws2 := [(a 0, mO a vR), (a 1, aI (kG κ) 800 (upd (upd f1 (103 + 8 * ((sR (xS X)).1) + 0) (nI jt)) (103 + 8 * ((sR (xS X)).1) + 1) (nI jk))), (a 3, aI (kG κ) 4800 gR3), (a 2, aI (kG κ) 800 f2), (a 5, aI (kG κ) 1600 f5), (a 6, aZ (kG κ) 2 f6), (a 7, aI (kG κ) 60 f7), (a 17, aI (kG κ) 12 f17), (a 21, aI (kG κ) 12 f21), (a 22, aI (kG κ) 12 f22), (a 23, aI (kG κ) 12 f23), (a 24, aI (kG κ) 12 f24), (a 25, aI (kG κ) 12 f25), (a 26, aI (kG κ) 12 f26), (a 27, aI (kG κ) 12 f27), (a 28, aI (kG κ) 12 f28), (a 29, aZ (kG κ) 4 f29), (a 31, aI (kG κ) 1300 f31), (a 32, aI (kG κ) 1300 f32), (a 33, aI (kG κ) 1300 f33), (a 34, aI (kG κ) 1300 f34), (a 35, aI (kG κ) 13000 f35), (a 36, aI (kG κ) 606 f36), (a 37, aI (kG κ) 12 f37), (a 38, aI (kG κ) 12 f38), (a 41, aI (kG κ) 64 f41)]) C 1 (103 + 8 * ((sR (xS X)).1) + 1) dX9_trigger_100 rfl rfl (by decide) rfl (by omega) rfl ?_
            refine w_aload_n (nx := 102) C 1 dX9_trigger_101 rfl rfl rfl ?_
            refine w_getM (nx := 105) C (.ref (a 1)) 0 1 dX9_trigger_102 rfl wl_X9_7 rfl (by decide) rfl (mg_1 _ _) ?_
            refine w_iload (nx := 107) C 0 dX9_trigger_105 rfl rfl ?_
            refine w_iconst (nx := 108) C (nI 2) dX9_trigger_107 rfl (by decide) ?_
            refine w_iadd (nx := 109) C (nI (103 + 8 * ((sR (xS X)).1) + 2)) dX9_trigger_108 rfl (nI_add _ _) ?_
            refine w_iload_n (nx := 110) C 4 dX9_trigger_109 rfl rfl rfl ?_
            refine w_iast (nx := 111) (ws2 := [(a 0, mO a vR), (a 1, aI (kG κ) 800 (upd (upd (upd f1 (103 + 8 * ((sR (xS X)).1) + 0) (nI jt)) (103 + 8 * ((sR (xS X)).1) + 1) (nI jk)) (103 + 8 * ((sR (xS X)).1) + 2) (nI js))), (a 3, aI (kG κ) 4800 gR3), (a 2, aI (kG κ) 800 f2), (a 5, aI (kG κ) 1600 f5), (a 6, aZ (kG κ) 2 f6), (a 7, aI (kG κ) 60 f7), (a 17, aI (kG κ) 12 f17), (a 21, aI (kG κ) 12 f21), (a 22, aI (kG κ) 12 f22), (a 23, aI (kG κ) 12 f23), (a 24, aI (kG κ) 12 f24), (a 25, aI (kG κ) 12 f25), (a 26, aI (kG κ) 12 f26), (a 27, aI (kG κ) 12 f27), (a 28, aI (kG κ) 12 f28), (a 29, aZ (kG κ) 4 f29), (a 31, aI (kG κ) 1300 f31), (a 32, aI (kG κ) 1300 f32), (a 33, aI (kG κ) 1300 f33), (a 34, aI (kG κ) 1300 f34), (a 35, aI (kG κ) 13000 f35), (a 36, aI (kG κ) 606 f36), (a 37, aI (kG κ) 12 f37), (a 38, aI (kG κ) 12 f38), (a 41, aI (kG κ) 64 f41)]) C 1 (103 + 8 * ((sR (xS X)).1) + 2) dX9_trigger_110 rfl rfl (by decide) rfl (by omega) rfl ?_
            refine w_aload_n (nx := 112) C 1 dX9_trigger_111 rfl rfl rfl ?_
            refine w_getM (nx := 115) C (.ref (a 1)) 0 1 dX9_trigger_112 rfl wl_X9_7 rfl (by decide) rfl (mg_1 _ _) ?_
            refine w_iload (nx := 117) C 0 dX9_trigger_115 rfl rfl ?_
            refine w_iconst (nx := 118) C (nI 3) dX9_trigger_117 rfl (by decide) ?_
            refine w_iadd (nx := 119) C (nI (103 + 8 * ((sR (xS X)).1) + 3)) dX9_trigger_118 rfl (nI_add _ _) ?_
            refine w_iload (nx := 121) C 5 dX9_trigger_119 rfl rfl ?_
            refine w_iast (nx := 122) (ws2 := [(a 0, mO a vR), (a 1, aI (kG κ) 800 (upd (upd (upd (upd f1 (103 + 8 * ((sR (xS X)).1) + 0) (nI jt)) (103 + 8 * ((sR (xS X)).1) + 1) (nI jk)) (103 + 8 * ((sR (xS X)).1) + 2) (nI js)) (103 + 8 * ((sR (xS X)).1) + 3) (nI jb))), (a 3, aI (kG κ) 4800 gR3), (a 2, aI (kG κ) 800 f2), (a 5, aI (kG κ) 1600 f5), (a 6, aZ (kG κ) 2 f6), (a 7, aI (kG κ) 60 f7), (a 17, aI (kG κ) 12 f17), (a 21, aI (kG κ) 12 f21), (a 22, aI (kG κ) 12 f22), (a 23, aI (kG κ) 12 f23), (a 24, aI (kG κ) 12 f24), (a 25, aI (kG κ) 12 f25), (a 26, aI (kG κ) 12 f26), (a 27, aI (kG κ) 12 f27), (a 28, aI (kG κ) 12 f28), (a 29, aZ (kG κ) 4 f29), (a 31, aI (kG κ) 1300 f31), (a 32, aI (kG κ) 1300 f32), (a 33, aI (kG κ) 1300 f33), (a 34, aI (kG κ) 1300 f34), (a 35, aI (kG κ) 13000 f35), (a 36, aI (kG κ) 606 f36), (a 37, aI (kG κ) 12 f37), (a 38, aI (kG κ) 12 f38), (a 41, aI (kG κ) 64 f41)]) C 1 (103 + 8 * ((sR (xS X)).1) + 3) dX9_trigger_121 rfl rfl (by decide) rfl (by omega) rfl ?_
            refine w_aload_n (nx := 123) C 1 dX9_trigger_122 rfl rfl rfl ?_
            refine w_getM (nx := 126) C (.ref (a 1)) 0 1 dX9_trigger_123 rfl wl_X9_7 rfl (by decide) rfl (mg_1 _ _) ?_
            refine w_bipush (nx := 128) C (nI 102) dX9_trigger_126 rfl (by decide) ?_
            refine w_dup2 (nx := 129) C dX9_trigger_128 rfl rfl rfl ?_
            refine w_iald (nx := 130) C (nI ((sR (xS X)).1)) 1 102 dX9_trigger_129 rfl rfl (by decide) rfl (by omega) ((upd_n (by omega)).trans ((upd_n (by omega)).trans ((upd_n (by omega)).trans ((upd_n (by omega)).trans hS.2.2.2.1.1)))) ?_
            refine w_iconst (nx := 131) C (nI 1) dX9_trigger_130 rfl (by decide) ?_
            refine w_iadd (nx := 132) C (nI ((sR (xS X)).1 + 1)) dX9_trigger_131 rfl (nI_add _ _) ?_
            refine w_iast (nx := 133) (ws2 := [(a 0, mO a vR), (a 1, aI (kG κ) 800 (upd (upd (upd (upd (upd f1 (103 + 8 * ((sR (xS X)).1) + 0) (nI jt)) (103 + 8 * ((sR (xS X)).1) + 1) (nI jk)) (103 + 8 * ((sR (xS X)).1) + 2) (nI js)) (103 + 8 * ((sR (xS X)).1) + 3) (nI jb)) 102 (nI ((sR (xS X)).1 + 1)))), (a 3, aI (kG κ) 4800 gR3), (a 2, aI (kG κ) 800 f2), (a 5, aI (kG κ) 1600 f5), (a 6, aZ (kG κ) 2 f6), (a 7, aI (kG κ) 60 f7), (a 17, aI (kG κ) 12 f17), (a 21, aI (kG κ) 12 f21), (a 22, aI (kG κ) 12 f22), (a 23, aI (kG κ) 12 f23), (a 24, aI (kG κ) 12 f24), (a 25, aI (kG κ) 12 f25), (a 26, aI (kG κ) 12 f26), (a 27, aI (kG κ) 12 f27), (a 28, aI (kG κ) 12 f28), (a 29, aZ (kG κ) 4 f29), (a 31, aI (kG κ) 1300 f31), (a 32, aI (kG κ) 1300 f32), (a 33, aI (kG κ) 1300 f33), (a 34, aI (kG κ) 1300 f34), (a 35, aI (kG κ) 13000 f35), (a 36, aI (kG κ) 606 f36), (a 37, aI (kG κ) 12 f37), (a 38, aI (kG κ) 12 f38), (a 41, aI (kG κ) 64 f41)]) C 1 102 dX9_trigger_132 rfl rfl (by decide) rfl (by omega) rfl ?_
            refine w_aload_n (nx := 134) C 1 dX9_trigger_133 rfl rfl rfl ?_
            refine w_getM (nx := 137) C (.ref (a 1)) 0 1 dX9_trigger_134 rfl wl_X9_7 rfl (by decide) rfl (mg_1 _ _) ?_
            refine w_bipush (nx := 139) C (nI 102) dX9_trigger_137 rfl (by decide) ?_
            refine w_iald (nx := 140) C (nI ((sR (xS X)).1 + 1)) 1 102 dX9_trigger_139 rfl rfl (by decide) rfl (by omega) (upd_e rfl) ?_
            refine w_iconst (nx := 141) C (nI 1) dX9_trigger_140 rfl (by decide) ?_
            refine w_isub (nx := 142) C (nI ((sR (xS X)).1 + 1 - 1)) dX9_trigger_141 rfl (pk_sub (by omega)) ?_
            refine ww_sel (l := [(a 0, mO a vR), (a 1, aI (kG κ) 800 (upd (upd (upd (upd (upd f1 (103 + 8 * ((sR (xS X)).1) + 0) (nI jt)) (103 + 8 * ((sR (xS X)).1) + 1) (nI jk)) (103 + 8 * ((sR (xS X)).1) + 2) (nI js)) (103 + 8 * ((sR (xS X)).1) + 3) (nI jb)) 102 (nI ((sR (xS X)).1 + 1)))), (a 2, aI (kG κ) 800 f2), (a 3, aI (kG κ) 4800 gR3), (a 5, aI (kG κ) 1600 f5), (a 6, aZ (kG κ) 2 f6), (a 7, aI (kG κ) 60 f7), (a 17, aI (kG κ) 12 f17), (a 21, aI (kG κ) 12 f21), (a 22, aI (kG κ) 12 f22), (a 23, aI (kG κ) 12 f23), (a 24, aI (kG κ) 12 f24), (a 25, aI (kG κ) 12 f25), (a 26, aI (kG κ) 12 f26), (a 27, aI (kG κ) 12 f27), (a 28, aI (kG κ) 12 f28), (a 29, aZ (kG κ) 4 f29), (a 31, aI (kG κ) 1300 f31), (a 32, aI (kG κ) 1300 f32), (a 33, aI (kG κ) 1300 f33), (a 34, aI (kG κ) 1300 f34), (a 35, aI (kG κ) 13000 f35), (a 36, aI (kG κ) 606 f36), (a 37, aI (kG κ) 12 f37), (a 38, aI (kG κ) 12 f38), (a 41, aI (kG κ) 64 f41)]) (pm_sel [0, 1, 3, 2, 4, 5, 6, 7, 8, 9, 10, 11, 12, 13, 14, 15, 16, 17, 18, 19, 20, 21, 22, 23, 24, 25] 26 (by decide +kernel) rfl rfl) ?_
            have ho9 : o_trigger X (nI jt) (nI jk) (nI js) (nI jb) = ((nI ((sR (xS X)).1 + 1 - 1)), (wR (xS X) (addR (sR (xS X)) jt jk js jb), kpH (xH X) (xS X), X.2.2)) := by unfold o_trigger; rw [if_neg (fun z => z ⟨jt, hjt, rfl⟩), if_neg (fun z => z ⟨⟨jk, hjk, rfl⟩, ⟨js, hjs, rfl⟩, jb, hjb, rfl⟩), if_neg (by omega), tn_nI (show jt < 2 ^ 31 by omega), tn_nI (show jk < 2 ^ 31 by omega), tn_nI (show js < 2 ^ 31 by omega), tn_nI (show jb < 2 ^ 31 by omega)]; rfl
            have hw9 : wfO (wR (xS X) (addR (sR (xS X)) jt jk js jb), kpH (xH X) (xS X), X.2.2) := by
              have z9 : wfO (o_trigger X (nI jt) (nI jk) (nI js) (nI jb)).2 := w_o_trigger hO
              rw [ho9] at z9
              exact z9
            refine w_iret (ty := .int) C E dX9_trigger_142 rfl rfl (Nat.le_refl _) (Nat.le_refl _) ?_
            rw [ho9]
            exact ⟨_, rfl, rfl, _, _, _, _, _, _, _, _, _, _, _, _, _, _, _, _, _, _, _, _, _, _, _, _, _, _, _, rfl, rfl, hw9, (rMS_R hS hO.1 (rMR_add hS.2.2.2.1 (by omega)) (fun i hi => (upd_n (by omega)).trans ((upd_n (by omega)).trans ((upd_n (by omega)).trans ((upd_n (by omega)).trans (upd_n (by omega))))))), hRU, hRn, hSl, (⟨(hRq 8 (by decide)).trans hPd.1, hPd.2⟩), ((hRq 18 (by decide)).trans h18)⟩
          · refine w_bipush (nx := 61) C (-4) dX9_trigger_59 rfl (by decide) ?_
            have ho9 : o_trigger X (nI jt) (nI jk) (nI js) (nI jb) = ((-4), X) := by unfold o_trigger; rw [if_neg (fun z => z ⟨jt, hjt, rfl⟩), if_neg (fun z => z ⟨⟨jk, hjk, rfl⟩, ⟨js, hjs, rfl⟩, jb, hjb, rfl⟩), if_pos (by omega)]
            refine w_iret (ty := .int) C E dX9_trigger_61 rfl rfl (Nat.le_refl _) (Nat.le_refl _) ?_
            rw [ho9]
            exact ⟨_, rfl, rfl, _, _, _, _, _, _, _, _, _, _, _, _, _, _, _, _, _, _, _, _, _, _, _, _, _, _, _, rfl, rfl, hO, hS, hU, hUn, hSl, hPd, h18⟩
        · have hno := h_8
          refine w_bipush (nx := 46) C (-2) dX9_trigger_44 rfl (by decide) ?_
          have ho9 : o_trigger X (nI jt) (nI jk) (nI js) qb = ((-2), X) := by unfold o_trigger; rw [if_neg (fun z => z ⟨jt, hjt, rfl⟩), if_pos (fun z => hno z.2.2)]
          refine w_iret (ty := .int) C E dX9_trigger_46 rfl rfl (Nat.le_refl _) (Nat.le_refl _) ?_
          rw [ho9]
          exact ⟨_, rfl, rfl, _, _, _, _, _, _, _, _, _, _, _, _, _, _, _, _, _, _, _, _, _, _, _, _, _, _, _, rfl, rfl, hO, hS, hU, hUn, hSl, hPd, h18⟩
  · have hno := h_2
    refine w_iconst (nx := 13) C (-1) dX9_trigger_12 rfl (by decide) ?_
    have ho9 : o_trigger X qt qk qs qb = ((-1), X) := by unfold o_trigger; rw [if_pos hno]
    refine w_iret (ty := .int) C E dX9_trigger_13 rfl rfl (Nat.le_refl _) (Nat.le_refl _) ?_
    rw [ho9]
    exact ⟨_, rfl, rfl, _, _, _, _, _, _, _, _, _, _, _, _, _, _, _, _, _, _, _, _, _, _, _, _, _, _, _, rfl, rfl, hO, hS, hU, hUn, hSl, hPd, h18⟩
set_option maxHeartbeats 4000000 in
set_option maxRecDepth 100000 in
theorem c_X9_deed (l : Launch) (G : GG) (h : Nat) (w : va_W) (X : SX) (qi : Int32) (qd : Int32) (qt : Int32) (qs : Int32) (qm : Int32) (hRX : RMX G h w X) : MT l G yX9_deed cX9_deed 8 (some .int) 3 0 0 [.ref h, .int qi, .int qd, .int qt, .int qs, .int qm] ((w)) (fun v9 ws9 => ∃ (w2 : va_W), v9 = some (.int ((o_deed X qi qd qt qs qm).1)) ∧ ws9 = ((w2)) ∧ RMX G h w2 (o_deed X qi qd qt qs qm).2) := by
  refine RMX_elim hRX (fun a v f1 f2 f3 f5 f6 f7 f17 f21 f22 f23 f24 f25 f26 f27 f28 f29 f31 f32 f33 f34 f35 f36 f37 f38 f41 hw9 hh hO hS hU hUn hSl hPd h18 => ?_)
  subst hw9
  subst hh
  refine MT.of RX9 [(0, .ref (a 0)), (1, .int qi), (2, .int qd), (3, .int qt), (4, .int qs), (5, .int qm)] (by decide +kernel) rfl rfl (Nat.le_of_ble_eq_true rfl) (fun κ C E hl9 hG9 hnm9 => ?_)
  subst hl9; subst hG9
  have hn12 := hO.1.2.2.2.1.1
  have hj100 := hO.1.2.2.2.2
  have hz6 := hO.2.1.1
  have hp60 := hO.2.2.2.1
  have hd8 := hO.1.1
  have hl1 := hO.1.2.1
  have hzT := hO.1.2.2.1
  refine w_aload_n (nx := 1) C 0 dX9_deed_0 rfl rfl rfl ?_
  refine w_iconst (nx := 2) C (nI 0) dX9_deed_1 rfl (by decide) ?_
  refine w_putM (nx := 5) (ws2 := [(a 0, mO a (upd v 0 (nI 0))), (a 1, aI (kG κ) 800 f1), (a 2, aI (kG κ) 800 f2), (a 3, aI (kG κ) 4800 f3), (a 5, aI (kG κ) 1600 f5), (a 6, aZ (kG κ) 2 f6), (a 7, aI (kG κ) 60 f7), (a 17, aI (kG κ) 12 f17), (a 21, aI (kG κ) 12 f21), (a 22, aI (kG κ) 12 f22), (a 23, aI (kG κ) 12 f23), (a 24, aI (kG κ) 12 f24), (a 25, aI (kG κ) 12 f25), (a 26, aI (kG κ) 12 f26), (a 27, aI (kG κ) 12 f27), (a 28, aI (kG κ) 12 f28), (a 29, aZ (kG κ) 4 f29), (a 31, aI (kG κ) 1300 f31), (a 32, aI (kG κ) 1300 f32), (a 33, aI (kG κ) 1300 f33), (a 34, aI (kG κ) 1300 f34), (a 35, aI (kG κ) 13000 f35), (a 36, aI (kG κ) 606 f36), (a 37, aI (kG κ) 12 f37), (a 38, aI (kG κ) 12 f38), (a 41, aI (kG κ) 64 f41)]) C 0 0 dX9_deed_2 rfl wl_X9_90 rfl (by decide) rfl rfl rfl (ms_0 _ _ _) rfl ?_
  refine w_aload_n (nx := 6) C 0 dX9_deed_5 rfl rfl rfl ?_
  refine w_iload_n (nx := 7) C 1 dX9_deed_6 rfl rfl rfl ?_
  refine w_callV (nx := 10) (wr := [(a 2, aI (kG κ) 800 f2), (a 3, aI (kG κ) 4800 f3), (a 5, aI (kG κ) 1600 f5), (a 6, aZ (kG κ) 2 f6), (a 7, aI (kG κ) 60 f7), (a 17, aI (kG κ) 12 f17), (a 21, aI (kG κ) 12 f21), (a 22, aI (kG κ) 12 f22), (a 23, aI (kG κ) 12 f23), (a 24, aI (kG κ) 12 f24), (a 25, aI (kG κ) 12 f25), (a 26, aI (kG κ) 12 f26), (a 27, aI (kG κ) 12 f27), (a 28, aI (kG κ) 12 f28), (a 29, aZ (kG κ) 4 f29), (a 31, aI (kG κ) 1300 f31), (a 32, aI (kG κ) 1300 f32), (a 33, aI (kG κ) 1300 f33), (a 34, aI (kG κ) 1300 f34), (a 35, aI (kG κ) 13000 f35), (a 36, aI (kG κ) 606 f36), (a 37, aI (kG κ) 12 f37), (a 38, aI (kG κ) 12 f38), (a 41, aI (kG κ) 64 f41)]) (rest := []) C mi_X9_isTrigger (c_X9_isTrigger _ _ a (upd v 0 (nI 0)) f1 qi ((sR (xS X)).1) (hS.2.2.2.1.1) (hn12)) 0 dX9_deed_7 rfl wl_X9_208 rfl rfl rfl (pm_sel [0, 1, 2, 3, 4, 5, 6, 7, 8, 9, 10, 11, 12, 13, 14, 15, 16, 17, 18, 19, 20, 21, 22, 23, 24, 25] 26 (by decide +kernel) rfl rfl) rfl rfl (Nat.le_of_ble_eq_true rfl) (Nat.le_of_ble_eq_true rfl) (Nat.le_of_ble_eq_true rfl) (Nat.zero_le _) (Nat.zero_le _) (fun v9 w9 R_1 => ?_)
  obtain ⟨rfl, rfl⟩ := R_1
  show WW κ 0 0 [(a 0, mO a (upd v 0 (nI 0))), (a 1, aI (kG κ) 800 f1), (a 2, aI (kG κ) 800 f2), (a 3, aI (kG κ) 4800 f3), (a 5, aI (kG κ) 1600 f5), (a 6, aZ (kG κ) 2 f6), (a 7, aI (kG κ) 60 f7), (a 17, aI (kG κ) 12 f17), (a 21, aI (kG κ) 12 f21), (a 22, aI (kG κ) 12 f22), (a 23, aI (kG κ) 12 f23), (a 24, aI (kG κ) 12 f24), (a 25, aI (kG κ) 12 f25), (a 26, aI (kG κ) 12 f26), (a 27, aI (kG κ) 12 f27), (a 28, aI (kG κ) 12 f28), (a 29, aZ (kG κ) 4 f29), (a 31, aI (kG κ) 1300 f31), (a 32, aI (kG κ) 1300 f32), (a 33, aI (kG κ) 1300 f33), (a 34, aI (kG κ) 1300 f34), (a 35, aI (kG κ) 13000 f35), (a 36, aI (kG κ) 606 f36), (a 37, aI (kG κ) 12 f37), (a 38, aI (kG κ) 12 f38), (a 41, aI (kG κ) 64 f41)] 10 [(0, .ref (a 0)), (1, .int qi), (2, .int qd), (3, .int qt), (4, .int qs), (5, .int qm)] [.int (bC (wi qi ((sR (xS X)).1)))]
  refine b_if_eq (tg := 20) (nx := 13) C dX9_deed_10 rfl rfl (fun h_2 => ?_) (fun h_2 => ?_)
  · have hno := h_2
    refine w_iconst (nx := 21) C (-1) dX9_deed_20 rfl (by decide) ?_
    have ho9 : o_deed X qi qd qt qs qm = ((-1), X) := by unfold o_deed; rw [if_pos (fun z => hno z.1)]
    refine w_iret (ty := .int) C E dX9_deed_21 rfl rfl (Nat.le_refl _) (Nat.le_refl _) ?_
    rw [ho9]
    exact ⟨_, rfl, rfl, _, _, _, _, _, _, _, _, _, _, _, _, _, _, _, _, _, _, _, _, _, _, _, _, _, _, _, rfl, rfl, hO, hS, hU, hUn, hSl, hPd, h18⟩
  · obtain ⟨ji, hji, rfl⟩ := h_2
    refine w_iload_n (nx := 14) C 3 dX9_deed_13 rfl rfl rfl ?_
    refine w_callS (nx := 17) (wr := [(a 0, mO a (upd v 0 (nI 0))), (a 1, aI (kG κ) 800 f1), (a 2, aI (kG κ) 800 f2), (a 3, aI (kG κ) 4800 f3), (a 5, aI (kG κ) 1600 f5), (a 6, aZ (kG κ) 2 f6), (a 7, aI (kG κ) 60 f7), (a 17, aI (kG κ) 12 f17), (a 21, aI (kG κ) 12 f21), (a 22, aI (kG κ) 12 f22), (a 23, aI (kG κ) 12 f23), (a 24, aI (kG κ) 12 f24), (a 25, aI (kG κ) 12 f25), (a 26, aI (kG κ) 12 f26), (a 27, aI (kG κ) 12 f27), (a 28, aI (kG κ) 12 f28), (a 29, aZ (kG κ) 4 f29), (a 31, aI (kG κ) 1300 f31), (a 32, aI (kG κ) 1300 f32), (a 33, aI (kG κ) 1300 f33), (a 34, aI (kG κ) 1300 f34), (a 35, aI (kG κ) 13000 f35), (a 36, aI (kG κ) 606 f36), (a 37, aI (kG κ) 12 f37), (a 38, aI (kG κ) 12 f38), (a 41, aI (kG κ) 64 f41)]) (rest := []) C ms_X9_isTable (c_X9_isTable _ _ qt) dX9_deed_14 rfl wl_X9_201 rfl (pm_sel [0, 1, 2, 3, 4, 5, 6, 7, 8, 9, 10, 11, 12, 13, 14, 15, 16, 17, 18, 19, 20, 21, 22, 23, 24, 25] 26 (by decide +kernel) rfl rfl) rfl rfl (Nat.le_of_ble_eq_true rfl) (Nat.le_of_ble_eq_true rfl) (Nat.le_of_ble_eq_true rfl) (Nat.zero_le _) (Nat.zero_le _) (fun v9 w9 R_3 => ?_)
    obtain ⟨rfl, rfl⟩ := R_3
    show WW κ 0 0 [(a 0, mO a (upd v 0 (nI 0))), (a 1, aI (kG κ) 800 f1), (a 2, aI (kG κ) 800 f2), (a 3, aI (kG κ) 4800 f3), (a 5, aI (kG κ) 1600 f5), (a 6, aZ (kG κ) 2 f6), (a 7, aI (kG κ) 60 f7), (a 17, aI (kG κ) 12 f17), (a 21, aI (kG κ) 12 f21), (a 22, aI (kG κ) 12 f22), (a 23, aI (kG κ) 12 f23), (a 24, aI (kG κ) 12 f24), (a 25, aI (kG κ) 12 f25), (a 26, aI (kG κ) 12 f26), (a 27, aI (kG κ) 12 f27), (a 28, aI (kG κ) 12 f28), (a 29, aZ (kG κ) 4 f29), (a 31, aI (kG κ) 1300 f31), (a 32, aI (kG κ) 1300 f32), (a 33, aI (kG κ) 1300 f33), (a 34, aI (kG κ) 1300 f34), (a 35, aI (kG κ) 13000 f35), (a 36, aI (kG κ) 606 f36), (a 37, aI (kG κ) 12 f37), (a 38, aI (kG κ) 12 f38), (a 41, aI (kG κ) 64 f41)] 17 [(0, .ref (a 0)), (1, .int (nI ji)), (2, .int qd), (3, .int qt), (4, .int qs), (5, .int qm)] [.int (bC (wi qt 4))]
    refine b_if_ne (tg := 22) (nx := 20) C dX9_deed_17 rfl rfl (fun h_4 => ?_) (fun h_4 => ?_)
    · obtain ⟨jt, hjt, rfl⟩ := h_4
      refine w_iload_n (nx := 23) C 2 dX9_deed_22 rfl rfl rfl ?_
      refine w_iconst (nx := 24) C (nI 0) dX9_deed_23 rfl (by decide) ?_
      refine w_iconst (nx := 25) C (nI 3) dX9_deed_24 rfl (by decide) ?_
      refine w_callS (nx := 28) (wr := [(a 0, mO a (upd v 0 (nI 0))), (a 1, aI (kG κ) 800 f1), (a 2, aI (kG κ) 800 f2), (a 3, aI (kG κ) 4800 f3), (a 5, aI (kG κ) 1600 f5), (a 6, aZ (kG κ) 2 f6), (a 7, aI (kG κ) 60 f7), (a 17, aI (kG κ) 12 f17), (a 21, aI (kG κ) 12 f21), (a 22, aI (kG κ) 12 f22), (a 23, aI (kG κ) 12 f23), (a 24, aI (kG κ) 12 f24), (a 25, aI (kG κ) 12 f25), (a 26, aI (kG κ) 12 f26), (a 27, aI (kG κ) 12 f27), (a 28, aI (kG κ) 12 f28), (a 29, aZ (kG κ) 4 f29), (a 31, aI (kG κ) 1300 f31), (a 32, aI (kG κ) 1300 f32), (a 33, aI (kG κ) 1300 f33), (a 34, aI (kG κ) 1300 f34), (a 35, aI (kG κ) 13000 f35), (a 36, aI (kG κ) 606 f36), (a 37, aI (kG κ) 12 f37), (a 38, aI (kG κ) 12 f38), (a 41, aI (kG κ) 64 f41)]) (rest := []) C ms_X9_in (c_X9_in_w _ _ qd 4 (nI 3) (by decide) (by decide)) dX9_deed_25 rfl wl_X9_93 rfl (pm_sel [0, 1, 2, 3, 4, 5, 6, 7, 8, 9, 10, 11, 12, 13, 14, 15, 16, 17, 18, 19, 20, 21, 22, 23, 24, 25] 26 (by decide +kernel) rfl rfl) rfl rfl (Nat.le_of_ble_eq_true rfl) (Nat.le_of_ble_eq_true rfl) (Nat.le_of_ble_eq_true rfl) (Nat.zero_le _) (Nat.zero_le _) (fun v9 w9 R_5 => ?_)
      obtain ⟨rfl, rfl⟩ := R_5
      show WW κ 0 0 [(a 0, mO a (upd v 0 (nI 0))), (a 1, aI (kG κ) 800 f1), (a 2, aI (kG κ) 800 f2), (a 3, aI (kG κ) 4800 f3), (a 5, aI (kG κ) 1600 f5), (a 6, aZ (kG κ) 2 f6), (a 7, aI (kG κ) 60 f7), (a 17, aI (kG κ) 12 f17), (a 21, aI (kG κ) 12 f21), (a 22, aI (kG κ) 12 f22), (a 23, aI (kG κ) 12 f23), (a 24, aI (kG κ) 12 f24), (a 25, aI (kG κ) 12 f25), (a 26, aI (kG κ) 12 f26), (a 27, aI (kG κ) 12 f27), (a 28, aI (kG κ) 12 f28), (a 29, aZ (kG κ) 4 f29), (a 31, aI (kG κ) 1300 f31), (a 32, aI (kG κ) 1300 f32), (a 33, aI (kG κ) 1300 f33), (a 34, aI (kG κ) 1300 f34), (a 35, aI (kG κ) 13000 f35), (a 36, aI (kG κ) 606 f36), (a 37, aI (kG κ) 12 f37), (a 38, aI (kG κ) 12 f38), (a 41, aI (kG κ) 64 f41)] 28 [(0, .ref (a 0)), (1, .int (nI ji)), (2, .int qd), (3, .int (nI jt)), (4, .int qs), (5, .int qm)] [.int (bC (wi qd 4))]
      refine b_if_eq (tg := 54) (nx := 31) C dX9_deed_28 rfl rfl (fun h_6 => ?_) (fun h_6 => ?_)
      · have hno := h_6
        refine w_bipush (nx := 56) C (-2) dX9_deed_54 rfl (by decide) ?_
        have ho9 : o_deed X (nI ji) qd (nI jt) qs qm = ((-2), X) := by unfold o_deed; rw [if_neg (fun z => z ⟨⟨ji, hji, rfl⟩, jt, hjt, rfl⟩), if_pos (fun z => hno z.1)]
        refine w_iret (ty := .int) C E dX9_deed_56 rfl rfl (Nat.le_refl _) (Nat.le_refl _) ?_
        rw [ho9]
        exact ⟨_, rfl, rfl, _, _, _, _, _, _, _, _, _, _, _, _, _, _, _, _, _, _, _, _, _, _, _, _, _, _, _, rfl, rfl, hO, hS, hU, hUn, hSl, hPd, h18⟩
      · obtain ⟨jd, hjd, rfl⟩ := h_6
        refine w_iload (nx := 33) C 4 dX9_deed_31 rfl rfl ?_
        refine w_iconst (nx := 34) C (nI 0) dX9_deed_33 rfl (by decide) ?_
        refine w_bipush (nx := 36) C (nI 99) dX9_deed_34 rfl (by decide) ?_
        refine w_callS (nx := 39) (wr := [(a 0, mO a (upd v 0 (nI 0))), (a 1, aI (kG κ) 800 f1), (a 2, aI (kG κ) 800 f2), (a 3, aI (kG κ) 4800 f3), (a 5, aI (kG κ) 1600 f5), (a 6, aZ (kG κ) 2 f6), (a 7, aI (kG κ) 60 f7), (a 17, aI (kG κ) 12 f17), (a 21, aI (kG κ) 12 f21), (a 22, aI (kG κ) 12 f22), (a 23, aI (kG κ) 12 f23), (a 24, aI (kG κ) 12 f24), (a 25, aI (kG κ) 12 f25), (a 26, aI (kG κ) 12 f26), (a 27, aI (kG κ) 12 f27), (a 28, aI (kG κ) 12 f28), (a 29, aZ (kG κ) 4 f29), (a 31, aI (kG κ) 1300 f31), (a 32, aI (kG κ) 1300 f32), (a 33, aI (kG κ) 1300 f33), (a 34, aI (kG κ) 1300 f34), (a 35, aI (kG κ) 13000 f35), (a 36, aI (kG κ) 606 f36), (a 37, aI (kG κ) 12 f37), (a 38, aI (kG κ) 12 f38), (a 41, aI (kG κ) 64 f41)]) (rest := []) C ms_X9_in (c_X9_in_w _ _ qs 100 (nI 99) (by decide) (by decide)) dX9_deed_36 rfl wl_X9_93 rfl (pm_sel [0, 1, 2, 3, 4, 5, 6, 7, 8, 9, 10, 11, 12, 13, 14, 15, 16, 17, 18, 19, 20, 21, 22, 23, 24, 25] 26 (by decide +kernel) rfl rfl) rfl rfl (Nat.le_of_ble_eq_true rfl) (Nat.le_of_ble_eq_true rfl) (Nat.le_of_ble_eq_true rfl) (Nat.zero_le _) (Nat.zero_le _) (fun v9 w9 R_7 => ?_)
        obtain ⟨rfl, rfl⟩ := R_7
        show WW κ 0 0 [(a 0, mO a (upd v 0 (nI 0))), (a 1, aI (kG κ) 800 f1), (a 2, aI (kG κ) 800 f2), (a 3, aI (kG κ) 4800 f3), (a 5, aI (kG κ) 1600 f5), (a 6, aZ (kG κ) 2 f6), (a 7, aI (kG κ) 60 f7), (a 17, aI (kG κ) 12 f17), (a 21, aI (kG κ) 12 f21), (a 22, aI (kG κ) 12 f22), (a 23, aI (kG κ) 12 f23), (a 24, aI (kG κ) 12 f24), (a 25, aI (kG κ) 12 f25), (a 26, aI (kG κ) 12 f26), (a 27, aI (kG κ) 12 f27), (a 28, aI (kG κ) 12 f28), (a 29, aZ (kG κ) 4 f29), (a 31, aI (kG κ) 1300 f31), (a 32, aI (kG κ) 1300 f32), (a 33, aI (kG κ) 1300 f33), (a 34, aI (kG κ) 1300 f34), (a 35, aI (kG κ) 13000 f35), (a 36, aI (kG κ) 606 f36), (a 37, aI (kG κ) 12 f37), (a 38, aI (kG κ) 12 f38), (a 41, aI (kG κ) 64 f41)] 39 [(0, .ref (a 0)), (1, .int (nI ji)), (2, .int (nI jd)), (3, .int (nI jt)), (4, .int qs), (5, .int qm)] [.int (bC (wi qs 100))]
        refine b_if_eq (tg := 54) (nx := 42) C dX9_deed_39 rfl rfl (fun h_8 => ?_) (fun h_8 => ?_)
        · have hno := h_8
          refine w_bipush (nx := 56) C (-2) dX9_deed_54 rfl (by decide) ?_
          have ho9 : o_deed X (nI ji) (nI jd) (nI jt) qs qm = ((-2), X) := by unfold o_deed; rw [if_neg (fun z => z ⟨⟨ji, hji, rfl⟩, jt, hjt, rfl⟩), if_pos (fun z => hno z.2.1)]
          refine w_iret (ty := .int) C E dX9_deed_56 rfl rfl (Nat.le_refl _) (Nat.le_refl _) ?_
          rw [ho9]
          exact ⟨_, rfl, rfl, _, _, _, _, _, _, _, _, _, _, _, _, _, _, _, _, _, _, _, _, _, _, _, _, _, _, _, rfl, rfl, hO, hS, hU, hUn, hSl, hPd, h18⟩
        · obtain ⟨js, hjs, rfl⟩ := h_8
          refine w_iload (nx := 44) C 5 dX9_deed_42 rfl rfl ?_
          refine w_iconst (nx := 45) C (nI 0) dX9_deed_44 rfl (by decide) ?_
          refine w_sipush (nx := 48) C (nI 999) dX9_deed_45 rfl (by decide) ?_
          refine w_callS (nx := 51) (wr := [(a 0, mO a (upd v 0 (nI 0))), (a 1, aI (kG κ) 800 f1), (a 2, aI (kG κ) 800 f2), (a 3, aI (kG κ) 4800 f3), (a 5, aI (kG κ) 1600 f5), (a 6, aZ (kG κ) 2 f6), (a 7, aI (kG κ) 60 f7), (a 17, aI (kG κ) 12 f17), (a 21, aI (kG κ) 12 f21), (a 22, aI (kG κ) 12 f22), (a 23, aI (kG κ) 12 f23), (a 24, aI (kG κ) 12 f24), (a 25, aI (kG κ) 12 f25), (a 26, aI (kG κ) 12 f26), (a 27, aI (kG κ) 12 f27), (a 28, aI (kG κ) 12 f28), (a 29, aZ (kG κ) 4 f29), (a 31, aI (kG κ) 1300 f31), (a 32, aI (kG κ) 1300 f32), (a 33, aI (kG κ) 1300 f33), (a 34, aI (kG κ) 1300 f34), (a 35, aI (kG κ) 13000 f35), (a 36, aI (kG κ) 606 f36), (a 37, aI (kG κ) 12 f37), (a 38, aI (kG κ) 12 f38), (a 41, aI (kG κ) 64 f41)]) (rest := []) C ms_X9_in (c_X9_in_w _ _ qm 1000 (nI 999) (by decide) (by decide)) dX9_deed_48 rfl wl_X9_93 rfl (pm_sel [0, 1, 2, 3, 4, 5, 6, 7, 8, 9, 10, 11, 12, 13, 14, 15, 16, 17, 18, 19, 20, 21, 22, 23, 24, 25] 26 (by decide +kernel) rfl rfl) rfl rfl (Nat.le_of_ble_eq_true rfl) (Nat.le_of_ble_eq_true rfl) (Nat.le_of_ble_eq_true rfl) (Nat.zero_le _) (Nat.zero_le _) (fun v9 w9 R_9 => ?_)
          obtain ⟨rfl, rfl⟩ := R_9
          show WW κ 0 0 [(a 0, mO a (upd v 0 (nI 0))), (a 1, aI (kG κ) 800 f1), (a 2, aI (kG κ) 800 f2), (a 3, aI (kG κ) 4800 f3), (a 5, aI (kG κ) 1600 f5), (a 6, aZ (kG κ) 2 f6), (a 7, aI (kG κ) 60 f7), (a 17, aI (kG κ) 12 f17), (a 21, aI (kG κ) 12 f21), (a 22, aI (kG κ) 12 f22), (a 23, aI (kG κ) 12 f23), (a 24, aI (kG κ) 12 f24), (a 25, aI (kG κ) 12 f25), (a 26, aI (kG κ) 12 f26), (a 27, aI (kG κ) 12 f27), (a 28, aI (kG κ) 12 f28), (a 29, aZ (kG κ) 4 f29), (a 31, aI (kG κ) 1300 f31), (a 32, aI (kG κ) 1300 f32), (a 33, aI (kG κ) 1300 f33), (a 34, aI (kG κ) 1300 f34), (a 35, aI (kG κ) 13000 f35), (a 36, aI (kG κ) 606 f36), (a 37, aI (kG κ) 12 f37), (a 38, aI (kG κ) 12 f38), (a 41, aI (kG κ) 64 f41)] 51 [(0, .ref (a 0)), (1, .int (nI ji)), (2, .int (nI jd)), (3, .int (nI jt)), (4, .int (nI js)), (5, .int qm)] [.int (bC (wi qm 1000))]
          refine b_if_ne (tg := 57) (nx := 54) C dX9_deed_51 rfl rfl (fun h_10 => ?_) (fun h_10 => ?_)
          · obtain ⟨jm, hjm, rfl⟩ := h_10
            refine w_aload_n (nx := 58) C 0 dX9_deed_57 rfl rfl rfl ?_
            refine w_callV (nx := 61) (wr := [(a 2, aI (kG κ) 800 f2), (a 5, aI (kG κ) 1600 f5), (a 6, aZ (kG κ) 2 f6), (a 7, aI (kG κ) 60 f7), (a 17, aI (kG κ) 12 f17), (a 21, aI (kG κ) 12 f21), (a 22, aI (kG κ) 12 f22), (a 23, aI (kG κ) 12 f23), (a 24, aI (kG κ) 12 f24), (a 25, aI (kG κ) 12 f25), (a 26, aI (kG κ) 12 f26), (a 27, aI (kG κ) 12 f27), (a 28, aI (kG κ) 12 f28), (a 29, aZ (kG κ) 4 f29), (a 31, aI (kG κ) 1300 f31), (a 32, aI (kG κ) 1300 f32), (a 33, aI (kG κ) 1300 f33), (a 34, aI (kG κ) 1300 f34), (a 35, aI (kG κ) 13000 f35), (a 36, aI (kG κ) 606 f36), (a 37, aI (kG κ) 12 f37), (a 38, aI (kG κ) 12 f38), (a 41, aI (kG κ) 64 f41)]) (rest := []) C mi_X9_records (c_X9_records _ _ a (upd v 0 (nI 0)) f1 f3 (xH X) (xS X) (hU) (hz6) (hO.2.1) (hUn) (hS) (hO.1)) 0 dX9_deed_58 rfl wl_X9_205 rfl rfl rfl (pm_sel [0, 1, 3, 2, 4, 5, 6, 7, 8, 9, 10, 11, 12, 13, 14, 15, 16, 17, 18, 19, 20, 21, 22, 23, 24, 25] 26 (by decide +kernel) rfl rfl) rfl rfl (Nat.le_of_ble_eq_true rfl) (Nat.le_of_ble_eq_true rfl) (Nat.le_of_ble_eq_true rfl) (Nat.zero_le _) (Nat.zero_le _) (fun v9 w9 R_11 => ?_)
            obtain ⟨vR, gR3, rfl, rfl, hRU, hRq, hRn⟩ := R_11
            show WW κ 0 0 [(a 0, mO a vR), (a 1, aI (kG κ) 800 f1), (a 3, aI (kG κ) 4800 gR3), (a 2, aI (kG κ) 800 f2), (a 5, aI (kG κ) 1600 f5), (a 6, aZ (kG κ) 2 f6), (a 7, aI (kG κ) 60 f7), (a 17, aI (kG κ) 12 f17), (a 21, aI (kG κ) 12 f21), (a 22, aI (kG κ) 12 f22), (a 23, aI (kG κ) 12 f23), (a 24, aI (kG κ) 12 f24), (a 25, aI (kG κ) 12 f25), (a 26, aI (kG κ) 12 f26), (a 27, aI (kG κ) 12 f27), (a 28, aI (kG κ) 12 f28), (a 29, aZ (kG κ) 4 f29), (a 31, aI (kG κ) 1300 f31), (a 32, aI (kG κ) 1300 f32), (a 33, aI (kG κ) 1300 f33), (a 34, aI (kG κ) 1300 f34), (a 35, aI (kG κ) 13000 f35), (a 36, aI (kG κ) 606 f36), (a 37, aI (kG κ) 12 f37), (a 38, aI (kG κ) 12 f38), (a 41, aI (kG κ) 64 f41)] 61 [(0, .ref (a 0)), (1, .int (nI ji)), (2, .int (nI jd)), (3, .int (nI jt)), (4, .int (nI js)), (5, .int (nI jm))] []
            refine w_aload_n (nx := 62) C 0 dX9_deed_61 rfl rfl rfl ?_
            refine w_iload_n (nx := 63) C 1 dX9_deed_62 rfl rfl rfl ?_
            refine w_iconst (nx := 64) C (nI 4) dX9_deed_63 rfl (by decide) ?_
            refine w_callV (nx := 67) (wr := [(a 3, aI (kG κ) 4800 gR3), (a 2, aI (kG κ) 800 f2), (a 5, aI (kG κ) 1600 f5), (a 6, aZ (kG κ) 2 f6), (a 7, aI (kG κ) 60 f7), (a 17, aI (kG κ) 12 f17), (a 21, aI (kG κ) 12 f21), (a 22, aI (kG κ) 12 f22), (a 23, aI (kG κ) 12 f23), (a 24, aI (kG κ) 12 f24), (a 25, aI (kG κ) 12 f25), (a 26, aI (kG κ) 12 f26), (a 27, aI (kG κ) 12 f27), (a 28, aI (kG κ) 12 f28), (a 29, aZ (kG κ) 4 f29), (a 31, aI (kG κ) 1300 f31), (a 32, aI (kG κ) 1300 f32), (a 33, aI (kG κ) 1300 f33), (a 34, aI (kG κ) 1300 f34), (a 35, aI (kG κ) 13000 f35), (a 36, aI (kG κ) 606 f36), (a 37, aI (kG κ) 12 f37), (a 38, aI (kG κ) 12 f38), (a 41, aI (kG κ) 64 f41)]) (rest := []) C mi_X9_of (c_X9_of _ _ a vR f1 ji 4 (nI ((sR (xS X)).2 ji 4)) (by first | assumption | omega) (by first | assumption | omega) (hS.2.2.2.1.2.1 ji hji 4 (by decide))) 0 dX9_deed_64 rfl wl_X9_146 rfl rfl rfl (pm_sel [0, 1, 2, 3, 4, 5, 6, 7, 8, 9, 10, 11, 12, 13, 14, 15, 16, 17, 18, 19, 20, 21, 22, 23, 24, 25] 26 (by decide +kernel) rfl rfl) rfl rfl (Nat.le_of_ble_eq_true rfl) (Nat.le_of_ble_eq_true rfl) (Nat.le_of_ble_eq_true rfl) (Nat.zero_le _) (Nat.zero_le _) (fun v9 w9 R_12 => ?_)
            obtain ⟨rfl, rfl⟩ := R_12
            show WW κ 0 0 [(a 0, mO a vR), (a 1, aI (kG κ) 800 f1), (a 3, aI (kG κ) 4800 gR3), (a 2, aI (kG κ) 800 f2), (a 5, aI (kG κ) 1600 f5), (a 6, aZ (kG κ) 2 f6), (a 7, aI (kG κ) 60 f7), (a 17, aI (kG κ) 12 f17), (a 21, aI (kG κ) 12 f21), (a 22, aI (kG κ) 12 f22), (a 23, aI (kG κ) 12 f23), (a 24, aI (kG κ) 12 f24), (a 25, aI (kG κ) 12 f25), (a 26, aI (kG κ) 12 f26), (a 27, aI (kG κ) 12 f27), (a 28, aI (kG κ) 12 f28), (a 29, aZ (kG κ) 4 f29), (a 31, aI (kG κ) 1300 f31), (a 32, aI (kG κ) 1300 f32), (a 33, aI (kG κ) 1300 f33), (a 34, aI (kG κ) 1300 f34), (a 35, aI (kG κ) 13000 f35), (a 36, aI (kG κ) 606 f36), (a 37, aI (kG κ) 12 f37), (a 38, aI (kG κ) 12 f38), (a 41, aI (kG κ) 64 f41)] 67 [(0, .ref (a 0)), (1, .int (nI ji)), (2, .int (nI jd)), (3, .int (nI jt)), (4, .int (nI js)), (5, .int (nI jm))] [.int (nI ((sR (xS X)).2 ji 4))]
            refine w_istore (nx := 69) (lo2 := [(6, .int (nI ((sR (xS X)).2 ji 4))), (0, .ref (a 0)), (1, .int (nI ji)), (2, .int (nI jd)), (3, .int (nI jt)), (4, .int (nI js)), (5, .int (nI jm))]) C dX9_deed_67 rfl (by decide) rfl ?_
            refine w_bipush (nx := 71) C (nI 103) dX9_deed_69 rfl (by decide) ?_
            refine w_bipush (nx := 73) C (nI 8) dX9_deed_71 rfl (by decide) ?_
            refine w_iload_n (nx := 74) C 2 dX9_deed_73 rfl rfl rfl ?_
            refine w_imul (nx := 75) C (nI (8 * ji)) dX9_deed_74 rfl (pk_mul _ _) ?_
            refine w_iadd (nx := 76) C (nI (103 + 8 * ji)) dX9_deed_75 rfl (nI_add _ _) ?_
            refine w_istore (nx := 78) (lo2 := [(7, .int (nI (103 + 8 * ji))), (6, .int (nI ((sR (xS X)).2 ji 4))), (0, .ref (a 0)), (1, .int (nI ji)), (2, .int (nI jd)), (3, .int (nI jt)), (4, .int (nI js)), (5, .int (nI jm))]) C dX9_deed_76 rfl (by decide) rfl ?_
            refine w_aload_n (nx := 79) C 2 dX9_deed_78 rfl rfl rfl ?_
            refine w_getM (nx := 82) C (.ref (a 1)) 0 1 dX9_deed_79 rfl wl_X9_7 rfl (by decide) rfl (mg_1 _ _) ?_
            refine w_iload (nx := 84) C 0 dX9_deed_82 rfl rfl ?_
            refine w_iconst (nx := 85) C (nI 4) dX9_deed_84 rfl (by decide) ?_
            refine w_iadd (nx := 86) C (nI (103 + 8 * ji + 4)) dX9_deed_85 rfl (nI_add _ _) ?_
            refine w_iload_n (nx := 87) C 4 dX9_deed_86 rfl rfl rfl ?_
            refine w_iast (nx := 88) (ws2 := [(a 0, mO a vR), (a 1, aI (kG κ) 800 (upd f1 (103 + 8 * ji + 4) (nI jd))), (a 3, aI (kG κ) 4800 gR3), (a 2, aI (kG κ) 800 f2), (a 5, aI (kG κ) 1600 f5), (a 6, aZ (kG κ) 2 f6), (a 7, aI (kG κ) 60 f7), (a 17, aI (kG κ) 12 f17), (a 21, aI (kG κ) 12 f21), (a 22, aI (kG κ) 12 f22), (a 23, aI (kG κ) 12 f23), (a 24, aI (kG κ) 12 f24), (a 25, aI (kG κ) 12 f25), (a 26, aI (kG κ) 12 f26), (a 27, aI (kG κ) 12 f27), (a 28, aI (kG κ) 12 f28), (a 29, aZ (kG κ) 4 f29), (a 31, aI (kG κ) 1300 f31), (a 32, aI (kG κ) 1300 f32), (a 33, aI (kG κ) 1300 f33), (a 34, aI (kG κ) 1300 f34), (a 35, aI (kG κ) 13000 f35), (a 36, aI (kG κ) 606 f36), (a 37, aI (kG κ) 12 f37), (a 38, aI (kG κ) 12 f38), (a 41, aI (kG κ) 64 f41)]) C 1 (103 + 8 * ji + 4) dX9_deed_87 rfl rfl (by decide) rfl (by omega) rfl ?_
            refine w_aload_n (nx := 89) C 2 dX9_deed_88 rfl rfl rfl ?_
            refine w_getM (nx := 92) C (.ref (a 1)) 0 1 dX9_deed_89 rfl wl_X9_7 rfl (by decide) rfl (mg_1 _ _) ?_
            refine w_iload (nx := 94) C 0 dX9_deed_92 rfl rfl ?_
            refine w_iconst (nx := 95) C (nI 5) dX9_deed_94 rfl (by decide) ?_
            refine w_iadd (nx := 96) C (nI (103 + 8 * ji + 5)) dX9_deed_95 rfl (nI_add _ _) ?_
            refine w_iload_n (nx := 97) C 5 dX9_deed_96 rfl rfl rfl ?_
            refine w_iast (nx := 98) (ws2 := [(a 0, mO a vR), (a 1, aI (kG κ) 800 (upd (upd f1 (103 + 8 * ji + 4) (nI jd)) (103 + 8 * ji + 5) (nI jt))), (a 3, aI (kG κ) 4800 gR3), (a 2, aI (kG κ) 800 f2), (a 5, aI (kG κ) 1600 f5), (a 6, aZ (kG κ) 2 f6), (a 7, aI (kG κ) 60 f7), (a 17, aI (kG κ) 12 f17), (a 21, aI (kG κ) 12 f21), (a 22, aI (kG κ) 12 f22), (a 23, aI (kG κ) 12 f23), (a 24, aI (kG κ) 12 f24), (a 25, aI (kG κ) 12 f25), (a 26, aI (kG κ) 12 f26), (a 27, aI (kG κ) 12 f27), (a 28, aI (kG κ) 12 f28), (a 29, aZ (kG κ) 4 f29), (a 31, aI (kG κ) 1300 f31), (a 32, aI (kG κ) 1300 f32), (a 33, aI (kG κ) 1300 f33), (a 34, aI (kG κ) 1300 f34), (a 35, aI (kG κ) 13000 f35), (a 36, aI (kG κ) 606 f36), (a 37, aI (kG κ) 12 f37), (a 38, aI (kG κ) 12 f38), (a 41, aI (kG κ) 64 f41)]) C 1 (103 + 8 * ji + 5) dX9_deed_97 rfl rfl (by decide) rfl (by omega) rfl ?_
            refine w_aload_n (nx := 99) C 2 dX9_deed_98 rfl rfl rfl ?_
            refine w_getM (nx := 102) C (.ref (a 1)) 0 1 dX9_deed_99 rfl wl_X9_7 rfl (by decide) rfl (mg_1 _ _) ?_
            refine w_iload (nx := 104) C 0 dX9_deed_102 rfl rfl ?_
            refine w_bipush (nx := 106) C (nI 6) dX9_deed_104 rfl (by decide) ?_
            refine w_iadd (nx := 107) C (nI (103 + 8 * ji + 6)) dX9_deed_106 rfl (nI_add _ _) ?_
            refine w_iload (nx := 109) C 6 dX9_deed_107 rfl rfl ?_
            refine w_iast (nx := 110) (ws2 := [(a 0, mO a vR), (a 1, aI (kG κ) 800 (upd (upd (upd f1 (103 + 8 * ji + 4) (nI jd)) (103 + 8 * ji + 5) (nI jt)) (103 + 8 * ji + 6) (nI js))), (a 3, aI (kG κ) 4800 gR3), (a 2, aI (kG κ) 800 f2), (a 5, aI (kG κ) 1600 f5), (a 6, aZ (kG κ) 2 f6), (a 7, aI (kG κ) 60 f7), (a 17, aI (kG κ) 12 f17), (a 21, aI (kG κ) 12 f21), (a 22, aI (kG κ) 12 f22), (a 23, aI (kG κ) 12 f23), (a 24, aI (kG κ) 12 f24), (a 25, aI (kG κ) 12 f25), (a 26, aI (kG κ) 12 f26), (a 27, aI (kG κ) 12 f27), (a 28, aI (kG κ) 12 f28), (a 29, aZ (kG κ) 4 f29), (a 31, aI (kG κ) 1300 f31), (a 32, aI (kG κ) 1300 f32), (a 33, aI (kG κ) 1300 f33), (a 34, aI (kG κ) 1300 f34), (a 35, aI (kG κ) 13000 f35), (a 36, aI (kG κ) 606 f36), (a 37, aI (kG κ) 12 f37), (a 38, aI (kG κ) 12 f38), (a 41, aI (kG κ) 64 f41)]) C 1 (103 + 8 * ji + 6) dX9_deed_109 rfl rfl (by decide) rfl (by omega) rfl ?_
            refine w_aload_n (nx := 111) C 2 dX9_deed_110 rfl rfl rfl ?_
            refine w_getM (nx := 114) C (.ref (a 1)) 0 1 dX9_deed_111 rfl wl_X9_7 rfl (by decide) rfl (mg_1 _ _) ?_
            refine w_iload (nx := 116) C 0 dX9_deed_114 rfl rfl ?_
            refine w_bipush (nx := 118) C (nI 7) dX9_deed_116 rfl (by decide) ?_
            refine w_iadd (nx := 119) C (nI (103 + 8 * ji + 7)) dX9_deed_118 rfl (nI_add _ _) ?_
            refine w_iload (nx := 121) C 7 dX9_deed_119 rfl rfl ?_
            refine w_iast (nx := 122) (ws2 := [(a 0, mO a vR), (a 1, aI (kG κ) 800 (upd (upd (upd (upd f1 (103 + 8 * ji + 4) (nI jd)) (103 + 8 * ji + 5) (nI jt)) (103 + 8 * ji + 6) (nI js)) (103 + 8 * ji + 7) (nI jm))), (a 3, aI (kG κ) 4800 gR3), (a 2, aI (kG κ) 800 f2), (a 5, aI (kG κ) 1600 f5), (a 6, aZ (kG κ) 2 f6), (a 7, aI (kG κ) 60 f7), (a 17, aI (kG κ) 12 f17), (a 21, aI (kG κ) 12 f21), (a 22, aI (kG κ) 12 f22), (a 23, aI (kG κ) 12 f23), (a 24, aI (kG κ) 12 f24), (a 25, aI (kG κ) 12 f25), (a 26, aI (kG κ) 12 f26), (a 27, aI (kG κ) 12 f27), (a 28, aI (kG κ) 12 f28), (a 29, aZ (kG κ) 4 f29), (a 31, aI (kG κ) 1300 f31), (a 32, aI (kG κ) 1300 f32), (a 33, aI (kG κ) 1300 f33), (a 34, aI (kG κ) 1300 f34), (a 35, aI (kG κ) 13000 f35), (a 36, aI (kG κ) 606 f36), (a 37, aI (kG κ) 12 f37), (a 38, aI (kG κ) 12 f38), (a 41, aI (kG κ) 64 f41)]) C 1 (103 + 8 * ji + 7) dX9_deed_121 rfl rfl (by decide) rfl (by omega) rfl ?_
            refine w_iload (nx := 124) C 1 dX9_deed_122 rfl rfl ?_
            refine ww_sel (l := [(a 0, mO a vR), (a 1, aI (kG κ) 800 (upd (upd (upd (upd f1 (103 + 8 * ji + 4) (nI jd)) (103 + 8 * ji + 5) (nI jt)) (103 + 8 * ji + 6) (nI js)) (103 + 8 * ji + 7) (nI jm))), (a 2, aI (kG κ) 800 f2), (a 3, aI (kG κ) 4800 gR3), (a 5, aI (kG κ) 1600 f5), (a 6, aZ (kG κ) 2 f6), (a 7, aI (kG κ) 60 f7), (a 17, aI (kG κ) 12 f17), (a 21, aI (kG κ) 12 f21), (a 22, aI (kG κ) 12 f22), (a 23, aI (kG κ) 12 f23), (a 24, aI (kG κ) 12 f24), (a 25, aI (kG κ) 12 f25), (a 26, aI (kG κ) 12 f26), (a 27, aI (kG κ) 12 f27), (a 28, aI (kG κ) 12 f28), (a 29, aZ (kG κ) 4 f29), (a 31, aI (kG κ) 1300 f31), (a 32, aI (kG κ) 1300 f32), (a 33, aI (kG κ) 1300 f33), (a 34, aI (kG κ) 1300 f34), (a 35, aI (kG κ) 13000 f35), (a 36, aI (kG κ) 606 f36), (a 37, aI (kG κ) 12 f37), (a 38, aI (kG κ) 12 f38), (a 41, aI (kG κ) 64 f41)]) (pm_sel [0, 1, 3, 2, 4, 5, 6, 7, 8, 9, 10, 11, 12, 13, 14, 15, 16, 17, 18, 19, 20, 21, 22, 23, 24, 25] 26 (by decide +kernel) rfl rfl) ?_
            have ho9 : o_deed X (nI ji) (nI jd) (nI jt) (nI js) (nI jm) = ((nI ((sR (xS X)).2 ji 4)), (wR (xS X) (deedR (sR (xS X)) ji jd jt js jm), kpH (xH X) (xS X), X.2.2)) := by unfold o_deed; rw [if_neg (fun z => z ⟨⟨ji, hji, rfl⟩, jt, hjt, rfl⟩), if_neg (fun z => z ⟨⟨jd, hjd, rfl⟩, ⟨js, hjs, rfl⟩, jm, hjm, rfl⟩), tn_nI (show ji < 2 ^ 31 by omega), tn_nI (show jd < 2 ^ 31 by omega), tn_nI (show jt < 2 ^ 31 by omega), tn_nI (show js < 2 ^ 31 by omega), tn_nI (show jm < 2 ^ 31 by omega)]
            have hw9 : wfO (wR (xS X) (deedR (sR (xS X)) ji jd jt js jm), kpH (xH X) (xS X), X.2.2) := by
              have z9 : wfO (o_deed X (nI ji) (nI jd) (nI jt) (nI js) (nI jm)).2 := w_o_deed hO
              rw [ho9] at z9
              exact z9
            refine w_iret (ty := .int) C E dX9_deed_124 rfl rfl (Nat.le_refl _) (Nat.le_refl _) ?_
            rw [ho9]
            exact ⟨_, rfl, rfl, _, _, _, _, _, _, _, _, _, _, _, _, _, _, _, _, _, _, _, _, _, _, _, _, _, _, _, rfl, rfl, hw9, (rMS_R hS hO.1 (rMR_deed hS.2.2.2.1 hn12 hji) (fun i hi => (upd_n (by omega)).trans ((upd_n (by omega)).trans ((upd_n (by omega)).trans (upd_n (by omega)))))), hRU, hRn, hSl, (⟨(hRq 8 (by decide)).trans hPd.1, hPd.2⟩), ((hRq 18 (by decide)).trans h18)⟩
          · have hno := h_10
            refine w_bipush (nx := 56) C (-2) dX9_deed_54 rfl (by decide) ?_
            have ho9 : o_deed X (nI ji) (nI jd) (nI jt) (nI js) qm = ((-2), X) := by unfold o_deed; rw [if_neg (fun z => z ⟨⟨ji, hji, rfl⟩, jt, hjt, rfl⟩), if_pos (fun z => hno z.2.2)]
            refine w_iret (ty := .int) C E dX9_deed_56 rfl rfl (Nat.le_refl _) (Nat.le_refl _) ?_
            rw [ho9]
            exact ⟨_, rfl, rfl, _, _, _, _, _, _, _, _, _, _, _, _, _, _, _, _, _, _, _, _, _, _, _, _, _, _, _, rfl, rfl, hO, hS, hU, hUn, hSl, hPd, h18⟩
    · have hno := h_4
      refine w_iconst (nx := 21) C (-1) dX9_deed_20 rfl (by decide) ?_
      have ho9 : o_deed X (nI ji) qd qt qs qm = ((-1), X) := by unfold o_deed; rw [if_pos (fun z => hno z.2)]
      refine w_iret (ty := .int) C E dX9_deed_21 rfl rfl (Nat.le_refl _) (Nat.le_refl _) ?_
      rw [ho9]
      exact ⟨_, rfl, rfl, _, _, _, _, _, _, _, _, _, _, _, _, _, _, _, _, _, _, _, _, _, _, _, _, _, _, _, rfl, rfl, hO, hS, hU, hUn, hSl, hPd, h18⟩
set_option maxHeartbeats 4000000 in
set_option maxRecDepth 100000 in
theorem c_X9_dropTrigger (l : Launch) (G : GG) (h : Nat) (w : va_W) (X : SX) (qi : Int32) (hRX : RMX G h w X) : MT l G yX9_dropTrigger cX9_dropTrigger 4 (some .int) 3 0 0 [.ref h, .int qi] ((w)) (fun v9 ws9 => ∃ (w2 : va_W), v9 = some (.int ((o_dropTrigger X qi).1)) ∧ ws9 = ((w2)) ∧ RMX G h w2 (o_dropTrigger X qi).2) := by
  refine RMX_elim hRX (fun a v f1 f2 f3 f5 f6 f7 f17 f21 f22 f23 f24 f25 f26 f27 f28 f29 f31 f32 f33 f34 f35 f36 f37 f38 f41 hw9 hh hO hS hU hUn hSl hPd h18 => ?_)
  subst hw9
  subst hh
  refine MT.of RX9 [(0, .ref (a 0)), (1, .int qi)] (by decide +kernel) rfl rfl (Nat.le_of_ble_eq_true rfl) (fun κ C E hl9 hG9 hnm9 => ?_)
  subst hl9; subst hG9
  have hn12 := hO.1.2.2.2.1.1
  have hj100 := hO.1.2.2.2.2
  have hz6 := hO.2.1.1
  have hp60 := hO.2.2.2.1
  have hd8 := hO.1.1
  have hl1 := hO.1.2.1
  have hzT := hO.1.2.2.1
  refine w_aload_n (nx := 1) C 0 dX9_dropTrigger_0 rfl rfl rfl ?_
  refine w_iconst (nx := 2) C (nI 0) dX9_dropTrigger_1 rfl (by decide) ?_
  refine w_putM (nx := 5) (ws2 := [(a 0, mO a (upd v 0 (nI 0))), (a 1, aI (kG κ) 800 f1), (a 2, aI (kG κ) 800 f2), (a 3, aI (kG κ) 4800 f3), (a 5, aI (kG κ) 1600 f5), (a 6, aZ (kG κ) 2 f6), (a 7, aI (kG κ) 60 f7), (a 17, aI (kG κ) 12 f17), (a 21, aI (kG κ) 12 f21), (a 22, aI (kG κ) 12 f22), (a 23, aI (kG κ) 12 f23), (a 24, aI (kG κ) 12 f24), (a 25, aI (kG κ) 12 f25), (a 26, aI (kG κ) 12 f26), (a 27, aI (kG κ) 12 f27), (a 28, aI (kG κ) 12 f28), (a 29, aZ (kG κ) 4 f29), (a 31, aI (kG κ) 1300 f31), (a 32, aI (kG κ) 1300 f32), (a 33, aI (kG κ) 1300 f33), (a 34, aI (kG κ) 1300 f34), (a 35, aI (kG κ) 13000 f35), (a 36, aI (kG κ) 606 f36), (a 37, aI (kG κ) 12 f37), (a 38, aI (kG κ) 12 f38), (a 41, aI (kG κ) 64 f41)]) C 0 0 dX9_dropTrigger_2 rfl wl_X9_90 rfl (by decide) rfl rfl rfl (ms_0 _ _ _) rfl ?_
  refine w_aload_n (nx := 6) C 0 dX9_dropTrigger_5 rfl rfl rfl ?_
  refine w_iload_n (nx := 7) C 1 dX9_dropTrigger_6 rfl rfl rfl ?_
  refine w_callV (nx := 10) (wr := [(a 2, aI (kG κ) 800 f2), (a 3, aI (kG κ) 4800 f3), (a 5, aI (kG κ) 1600 f5), (a 6, aZ (kG κ) 2 f6), (a 7, aI (kG κ) 60 f7), (a 17, aI (kG κ) 12 f17), (a 21, aI (kG κ) 12 f21), (a 22, aI (kG κ) 12 f22), (a 23, aI (kG κ) 12 f23), (a 24, aI (kG κ) 12 f24), (a 25, aI (kG κ) 12 f25), (a 26, aI (kG κ) 12 f26), (a 27, aI (kG κ) 12 f27), (a 28, aI (kG κ) 12 f28), (a 29, aZ (kG κ) 4 f29), (a 31, aI (kG κ) 1300 f31), (a 32, aI (kG κ) 1300 f32), (a 33, aI (kG κ) 1300 f33), (a 34, aI (kG κ) 1300 f34), (a 35, aI (kG κ) 13000 f35), (a 36, aI (kG κ) 606 f36), (a 37, aI (kG κ) 12 f37), (a 38, aI (kG κ) 12 f38), (a 41, aI (kG κ) 64 f41)]) (rest := []) C mi_X9_isTrigger (c_X9_isTrigger _ _ a (upd v 0 (nI 0)) f1 qi ((sR (xS X)).1) (hS.2.2.2.1.1) (hn12)) 0 dX9_dropTrigger_7 rfl wl_X9_208 rfl rfl rfl (pm_sel [0, 1, 2, 3, 4, 5, 6, 7, 8, 9, 10, 11, 12, 13, 14, 15, 16, 17, 18, 19, 20, 21, 22, 23, 24, 25] 26 (by decide +kernel) rfl rfl) rfl rfl (Nat.le_of_ble_eq_true rfl) (Nat.le_of_ble_eq_true rfl) (Nat.le_of_ble_eq_true rfl) (Nat.zero_le _) (Nat.zero_le _) (fun v9 w9 R_1 => ?_)
  obtain ⟨rfl, rfl⟩ := R_1
  show WW κ 0 0 [(a 0, mO a (upd v 0 (nI 0))), (a 1, aI (kG κ) 800 f1), (a 2, aI (kG κ) 800 f2), (a 3, aI (kG κ) 4800 f3), (a 5, aI (kG κ) 1600 f5), (a 6, aZ (kG κ) 2 f6), (a 7, aI (kG κ) 60 f7), (a 17, aI (kG κ) 12 f17), (a 21, aI (kG κ) 12 f21), (a 22, aI (kG κ) 12 f22), (a 23, aI (kG κ) 12 f23), (a 24, aI (kG κ) 12 f24), (a 25, aI (kG κ) 12 f25), (a 26, aI (kG κ) 12 f26), (a 27, aI (kG κ) 12 f27), (a 28, aI (kG κ) 12 f28), (a 29, aZ (kG κ) 4 f29), (a 31, aI (kG κ) 1300 f31), (a 32, aI (kG κ) 1300 f32), (a 33, aI (kG κ) 1300 f33), (a 34, aI (kG κ) 1300 f34), (a 35, aI (kG κ) 13000 f35), (a 36, aI (kG κ) 606 f36), (a 37, aI (kG κ) 12 f37), (a 38, aI (kG κ) 12 f38), (a 41, aI (kG κ) 64 f41)] 10 [(0, .ref (a 0)), (1, .int qi)] [.int (bC (wi qi ((sR (xS X)).1)))]
  refine b_if_ne (tg := 15) (nx := 13) C dX9_dropTrigger_10 rfl rfl (fun h_2 => ?_) (fun h_2 => ?_)
  · obtain ⟨ji, hji, rfl⟩ := h_2
    refine w_aload_n (nx := 16) C 0 dX9_dropTrigger_15 rfl rfl rfl ?_
    refine w_callV (nx := 19) (wr := [(a 2, aI (kG κ) 800 f2), (a 5, aI (kG κ) 1600 f5), (a 6, aZ (kG κ) 2 f6), (a 7, aI (kG κ) 60 f7), (a 17, aI (kG κ) 12 f17), (a 21, aI (kG κ) 12 f21), (a 22, aI (kG κ) 12 f22), (a 23, aI (kG κ) 12 f23), (a 24, aI (kG κ) 12 f24), (a 25, aI (kG κ) 12 f25), (a 26, aI (kG κ) 12 f26), (a 27, aI (kG κ) 12 f27), (a 28, aI (kG κ) 12 f28), (a 29, aZ (kG κ) 4 f29), (a 31, aI (kG κ) 1300 f31), (a 32, aI (kG κ) 1300 f32), (a 33, aI (kG κ) 1300 f33), (a 34, aI (kG κ) 1300 f34), (a 35, aI (kG κ) 13000 f35), (a 36, aI (kG κ) 606 f36), (a 37, aI (kG κ) 12 f37), (a 38, aI (kG κ) 12 f38), (a 41, aI (kG κ) 64 f41)]) (rest := []) C mi_X9_records (c_X9_records _ _ a (upd v 0 (nI 0)) f1 f3 (xH X) (xS X) (hU) (hz6) (hO.2.1) (hUn) (hS) (hO.1)) 0 dX9_dropTrigger_16 rfl wl_X9_205 rfl rfl rfl (pm_sel [0, 1, 3, 2, 4, 5, 6, 7, 8, 9, 10, 11, 12, 13, 14, 15, 16, 17, 18, 19, 20, 21, 22, 23, 24, 25] 26 (by decide +kernel) rfl rfl) rfl rfl (Nat.le_of_ble_eq_true rfl) (Nat.le_of_ble_eq_true rfl) (Nat.le_of_ble_eq_true rfl) (Nat.zero_le _) (Nat.zero_le _) (fun v9 w9 R_3 => ?_)
    obtain ⟨vR, gR3, rfl, rfl, hRU, hRq, hRn⟩ := R_3
    show WW κ 0 0 [(a 0, mO a vR), (a 1, aI (kG κ) 800 f1), (a 3, aI (kG κ) 4800 gR3), (a 2, aI (kG κ) 800 f2), (a 5, aI (kG κ) 1600 f5), (a 6, aZ (kG κ) 2 f6), (a 7, aI (kG κ) 60 f7), (a 17, aI (kG κ) 12 f17), (a 21, aI (kG κ) 12 f21), (a 22, aI (kG κ) 12 f22), (a 23, aI (kG κ) 12 f23), (a 24, aI (kG κ) 12 f24), (a 25, aI (kG κ) 12 f25), (a 26, aI (kG κ) 12 f26), (a 27, aI (kG κ) 12 f27), (a 28, aI (kG κ) 12 f28), (a 29, aZ (kG κ) 4 f29), (a 31, aI (kG κ) 1300 f31), (a 32, aI (kG κ) 1300 f32), (a 33, aI (kG κ) 1300 f33), (a 34, aI (kG κ) 1300 f34), (a 35, aI (kG κ) 13000 f35), (a 36, aI (kG κ) 606 f36), (a 37, aI (kG κ) 12 f37), (a 38, aI (kG κ) 12 f38), (a 41, aI (kG κ) 64 f41)] 19 [(0, .ref (a 0)), (1, .int (nI ji))] []
    refine w_bipush (nx := 21) C (nI 103) dX9_dropTrigger_19 rfl (by decide) ?_
    refine w_bipush (nx := 23) C (nI 8) dX9_dropTrigger_21 rfl (by decide) ?_
    refine w_aload_n (nx := 24) C 0 dX9_dropTrigger_23 rfl rfl rfl ?_
    refine w_getM (nx := 27) C (.ref (a 1)) 0 1 dX9_dropTrigger_24 rfl wl_X9_7 rfl (by decide) rfl (mg_1 _ _) ?_
    refine w_bipush (nx := 29) C (nI 102) dX9_dropTrigger_27 rfl (by decide) ?_
    refine w_iald (nx := 30) C (nI ((sR (xS X)).1)) 1 102 dX9_dropTrigger_29 rfl rfl (by decide) rfl (by omega) hS.2.2.2.1.1 ?_
    refine w_iconst (nx := 31) C (nI 1) dX9_dropTrigger_30 rfl (by decide) ?_
    refine w_isub (nx := 32) C (nI ((sR (xS X)).1 - 1)) dX9_dropTrigger_31 rfl (pk_sub (by omega)) ?_
    refine w_imul (nx := 33) C (nI (8 * ((sR (xS X)).1 - 1))) dX9_dropTrigger_32 rfl (pk_mul _ _) ?_
    refine w_iadd (nx := 34) C (nI (103 + (8 * ((sR (xS X)).1 - 1)))) dX9_dropTrigger_33 rfl (nI_add _ _) ?_
    refine w_istore_n (nx := 35) (lo2 := [(2, .int (nI (103 + (8 * ((sR (xS X)).1 - 1))))), (0, .ref (a 0)), (1, .int (nI ji))]) C dX9_dropTrigger_34 rfl rfl (by decide) rfl ?_
    refine w_bipush (nx := 37) C (nI 103) dX9_dropTrigger_35 rfl (by decide) ?_
    refine w_bipush (nx := 39) C (nI 8) dX9_dropTrigger_37 rfl (by decide) ?_
    refine w_iload_n (nx := 40) C 2 dX9_dropTrigger_39 rfl rfl rfl ?_
    refine w_imul (nx := 41) C (nI (8 * ji)) dX9_dropTrigger_40 rfl (pk_mul _ _) ?_
    refine w_iadd (nx := 42) C (nI (103 + 8 * ji)) dX9_dropTrigger_41 rfl (nI_add _ _) ?_
    refine w_istore_n (nx := 43) (lo2 := [(3, .int (nI (103 + 8 * ji))), (2, .int (nI (103 + (8 * ((sR (xS X)).1 - 1))))), (0, .ref (a 0)), (1, .int (nI ji))]) C dX9_dropTrigger_42 rfl rfl (by decide) rfl ?_
    have LP_4 : ∀ (N9_43 : Nat) (p1 : Nat → Int32) (k : Nat), (103 + 8 * ji ≤ k) → (k ≤ 103 + 8 * ((sR (xS X)).1 - 1)) → (∀ j, 103 + 8 * ji ≤ j → j < k → p1 j = f1 (j + 8)) → (∀ j, (j < 103 + 8 * ji ∨ k ≤ j) → p1 j = f1 j) → (103 + 8 * ((sR (xS X)).1 - 1) - k) < N9_43 → WW κ 0 0 [(a 0, mO a vR), (a 1, aI (kG κ) 800 p1), (a 2, aI (kG κ) 800 f2), (a 3, aI (kG κ) 4800 gR3), (a 5, aI (kG κ) 1600 f5), (a 6, aZ (kG κ) 2 f6), (a 7, aI (kG κ) 60 f7), (a 17, aI (kG κ) 12 f17), (a 21, aI (kG κ) 12 f21), (a 22, aI (kG κ) 12 f22), (a 23, aI (kG κ) 12 f23), (a 24, aI (kG κ) 12 f24), (a 25, aI (kG κ) 12 f25), (a 26, aI (kG κ) 12 f26), (a 27, aI (kG κ) 12 f27), (a 28, aI (kG κ) 12 f28), (a 29, aZ (kG κ) 4 f29), (a 31, aI (kG κ) 1300 f31), (a 32, aI (kG κ) 1300 f32), (a 33, aI (kG κ) 1300 f33), (a 34, aI (kG κ) 1300 f34), (a 35, aI (kG κ) 13000 f35), (a 36, aI (kG κ) 606 f36), (a 37, aI (kG κ) 12 f37), (a 38, aI (kG κ) 12 f38), (a 41, aI (kG κ) 64 f41)] 43 [(0, .ref (a 0)), (1, .int (nI ji)), (2, .int (nI (103 + 8 * ((sR (xS X)).1 - 1)))), (3, .int (nI k))] [] := by
      intro N9_43
      induction N9_43 with
      | zero => intro p1 k hk1 hk2 ha1 ha2 hm9_43; exact absurd hm9_43 (Nat.not_lt_zero _)
      | succ N9_43 ih9_43 =>
        intro p1 k hk1 hk2 ha1 ha2 hm9_43
        refine w_iload_n (nx := 44) C 3 dX9_dropTrigger_43 rfl rfl rfl ?_
        refine w_iload_n (nx := 45) C 2 dX9_dropTrigger_44 rfl rfl rfl ?_
        refine n_icmp_ge (tg := 69) (nx := 48) C dX9_dropTrigger_45 rfl rfl (by omega) (by omega) (fun h_5 => ?_) (fun h_5 => ?_)
        · have hke : k = 103 + 8 * ((sR (xS X)).1 - 1) := by omega
          subst hke
          refine w_iconst (nx := 70) C (nI 0) dX9_dropTrigger_69 rfl (by decide) ?_
          refine w_istore_n (nx := 71) (lo2 := [(3, .int (nI 0)), (0, .ref (a 0)), (1, .int (nI ji)), (2, .int (nI (103 + 8 * ((sR (xS X)).1 - 1))))]) C dX9_dropTrigger_70 rfl rfl (by decide) rfl ?_
          have LP_6 : ∀ (N9_71 : Nat) (p2 : Nat → Int32) (q : Nat), (q ≤ 8) → (∀ i, i < q → p2 (103 + 8 * ((sR (xS X)).1 - 1) + i) = 0) → (∀ j, (j < 103 + 8 * ((sR (xS X)).1 - 1) ∨ 103 + 8 * ((sR (xS X)).1 - 1) + 8 ≤ j) → p2 j = p1 j) → (8 - q) < N9_71 → WW κ 0 0 [(a 0, mO a vR), (a 1, aI (kG κ) 800 p2), (a 2, aI (kG κ) 800 f2), (a 3, aI (kG κ) 4800 gR3), (a 5, aI (kG κ) 1600 f5), (a 6, aZ (kG κ) 2 f6), (a 7, aI (kG κ) 60 f7), (a 17, aI (kG κ) 12 f17), (a 21, aI (kG κ) 12 f21), (a 22, aI (kG κ) 12 f22), (a 23, aI (kG κ) 12 f23), (a 24, aI (kG κ) 12 f24), (a 25, aI (kG κ) 12 f25), (a 26, aI (kG κ) 12 f26), (a 27, aI (kG κ) 12 f27), (a 28, aI (kG κ) 12 f28), (a 29, aZ (kG κ) 4 f29), (a 31, aI (kG κ) 1300 f31), (a 32, aI (kG κ) 1300 f32), (a 33, aI (kG κ) 1300 f33), (a 34, aI (kG κ) 1300 f34), (a 35, aI (kG κ) 13000 f35), (a 36, aI (kG κ) 606 f36), (a 37, aI (kG κ) 12 f37), (a 38, aI (kG κ) 12 f38), (a 41, aI (kG κ) 64 f41)] 71 [(0, .ref (a 0)), (1, .int (nI ji)), (2, .int (nI (103 + 8 * ((sR (xS X)).1 - 1)))), (3, .int (nI q))] [] := by
            intro N9_71
            induction N9_71 with
            | zero => intro p2 q hq8 hb1 hb2 hm9_71; exact absurd hm9_71 (Nat.not_lt_zero _)
            | succ N9_71 ih9_71 =>
              intro p2 q hq8 hb1 hb2 hm9_71
              refine w_iload_n (nx := 72) C 3 dX9_dropTrigger_71 rfl rfl rfl ?_
              refine w_bipush (nx := 74) C (nI 8) dX9_dropTrigger_72 rfl (by decide) ?_
              refine n_icmp_ge (tg := 92) (nx := 77) C dX9_dropTrigger_74 rfl rfl (by omega) (by omega) (fun h_7 => ?_) (fun h_7 => ?_)
              · refine w_aload_n (nx := 93) C 0 dX9_dropTrigger_92 rfl rfl rfl ?_
                refine w_getM (nx := 96) C (.ref (a 1)) 0 1 dX9_dropTrigger_93 rfl wl_X9_7 rfl (by decide) rfl (mg_1 _ _) ?_
                refine w_bipush (nx := 98) C (nI 102) dX9_dropTrigger_96 rfl (by decide) ?_
                refine w_dup2 (nx := 99) C dX9_dropTrigger_98 rfl rfl rfl ?_
                refine w_iald (nx := 100) C (nI ((sR (xS X)).1)) 1 102 dX9_dropTrigger_99 rfl rfl (by decide) rfl (by omega) ((hb2 102 (by omega)).trans ((ha2 102 (by omega)).trans hS.2.2.2.1.1)) ?_
                refine w_iconst (nx := 101) C (nI 1) dX9_dropTrigger_100 rfl (by decide) ?_
                refine w_isub (nx := 102) C (nI ((sR (xS X)).1 - 1)) dX9_dropTrigger_101 rfl (pk_sub (by omega)) ?_
                refine w_iast (nx := 103) (ws2 := [(a 0, mO a vR), (a 1, aI (kG κ) 800 (upd p2 102 (nI ((sR (xS X)).1 - 1)))), (a 2, aI (kG κ) 800 f2), (a 3, aI (kG κ) 4800 gR3), (a 5, aI (kG κ) 1600 f5), (a 6, aZ (kG κ) 2 f6), (a 7, aI (kG κ) 60 f7), (a 17, aI (kG κ) 12 f17), (a 21, aI (kG κ) 12 f21), (a 22, aI (kG κ) 12 f22), (a 23, aI (kG κ) 12 f23), (a 24, aI (kG κ) 12 f24), (a 25, aI (kG κ) 12 f25), (a 26, aI (kG κ) 12 f26), (a 27, aI (kG κ) 12 f27), (a 28, aI (kG κ) 12 f28), (a 29, aZ (kG κ) 4 f29), (a 31, aI (kG κ) 1300 f31), (a 32, aI (kG κ) 1300 f32), (a 33, aI (kG κ) 1300 f33), (a 34, aI (kG κ) 1300 f34), (a 35, aI (kG κ) 13000 f35), (a 36, aI (kG κ) 606 f36), (a 37, aI (kG κ) 12 f37), (a 38, aI (kG κ) 12 f38), (a 41, aI (kG κ) 64 f41)]) C 1 102 dX9_dropTrigger_102 rfl rfl (by decide) rfl (by omega) rfl ?_
                refine w_aload_n (nx := 104) C 0 dX9_dropTrigger_103 rfl rfl rfl ?_
                refine w_getM (nx := 107) C (.ref (a 1)) 0 1 dX9_dropTrigger_104 rfl wl_X9_7 rfl (by decide) rfl (mg_1 _ _) ?_
                refine w_bipush (nx := 109) C (nI 102) dX9_dropTrigger_107 rfl (by decide) ?_
                refine w_iald (nx := 110) C (nI ((sR (xS X)).1 - 1)) 1 102 dX9_dropTrigger_109 rfl rfl (by decide) rfl (by omega) (upd_e rfl) ?_
                have ho9 : o_dropTrigger X (nI ji) = ((nI ((sR (xS X)).1 - 1)), (wR (xS X) (drpR (sR (xS X)) ji), kpH (xH X) (xS X), X.2.2)) := by unfold o_dropTrigger; rw [if_neg (fun z => z ⟨ji, hji, rfl⟩), tn_nI (show ji < 2 ^ 31 by omega)]
                have hw9 : wfO (wR (xS X) (drpR (sR (xS X)) ji), kpH (xH X) (xS X), X.2.2) := by
                  have z9 : wfO (o_dropTrigger X (nI ji)).2 := w_o_dropTrigger hO
                  rw [ho9] at z9
                  exact z9
                refine w_iret (ty := .int) C E dX9_dropTrigger_110 rfl rfl (Nat.le_refl _) (Nat.le_refl _) ?_
                rw [ho9]
                exact ⟨_, rfl, rfl, _, _, _, _, _, _, _, _, _, _, _, _, _, _, _, _, _, _, _, _, _, _, _, _, _, _, _, rfl, rfl, hw9, (rMS_R hS hO.1 (rMR_drp hS.2.2.2.1 hn12 hji (fun j a b => (upd_n (by omega)).trans ((hb2 j (by omega)).trans (ha2 j (by omega)))) (fun j a b => (upd_n (by omega)).trans ((hb2 j (by omega)).trans (ha1 j a (by omega)))) (fun i hi => (upd_n (by omega)).trans (hb1 i (by omega))) (fun j a b => (upd_n (by omega)).trans ((hb2 j (by omega)).trans (ha2 j (by omega)))) (upd_e rfl)) (fun i hi => (upd_n (by omega)).trans ((hb2 i (by omega)).trans (ha2 i (by omega))))), hRU, hRn, hSl, (⟨(hRq 8 (by decide)).trans hPd.1, hPd.2⟩), ((hRq 18 (by decide)).trans h18)⟩
              · refine w_aload_n (nx := 78) C 0 dX9_dropTrigger_77 rfl rfl rfl ?_
                refine w_getM (nx := 81) C (.ref (a 1)) 0 1 dX9_dropTrigger_78 rfl wl_X9_7 rfl (by decide) rfl (mg_1 _ _) ?_
                refine w_iload_n (nx := 82) C 2 dX9_dropTrigger_81 rfl rfl rfl ?_
                refine w_iload_n (nx := 83) C 3 dX9_dropTrigger_82 rfl rfl rfl ?_
                refine w_iadd (nx := 84) C (nI (103 + 8 * ((sR (xS X)).1 - 1) + q)) dX9_dropTrigger_83 rfl (nI_add _ _) ?_
                refine w_iconst (nx := 85) C (nI 0) dX9_dropTrigger_84 rfl (by decide) ?_
                refine w_iast (nx := 86) (ws2 := [(a 0, mO a vR), (a 1, aI (kG κ) 800 (upd p2 (103 + 8 * ((sR (xS X)).1 - 1) + q) (nI 0))), (a 2, aI (kG κ) 800 f2), (a 3, aI (kG κ) 4800 gR3), (a 5, aI (kG κ) 1600 f5), (a 6, aZ (kG κ) 2 f6), (a 7, aI (kG κ) 60 f7), (a 17, aI (kG κ) 12 f17), (a 21, aI (kG κ) 12 f21), (a 22, aI (kG κ) 12 f22), (a 23, aI (kG κ) 12 f23), (a 24, aI (kG κ) 12 f24), (a 25, aI (kG κ) 12 f25), (a 26, aI (kG κ) 12 f26), (a 27, aI (kG κ) 12 f27), (a 28, aI (kG κ) 12 f28), (a 29, aZ (kG κ) 4 f29), (a 31, aI (kG κ) 1300 f31), (a 32, aI (kG κ) 1300 f32), (a 33, aI (kG κ) 1300 f33), (a 34, aI (kG κ) 1300 f34), (a 35, aI (kG κ) 13000 f35), (a 36, aI (kG κ) 606 f36), (a 37, aI (kG κ) 12 f37), (a 38, aI (kG κ) 12 f38), (a 41, aI (kG κ) 64 f41)]) C 1 (103 + 8 * ((sR (xS X)).1 - 1) + q) dX9_dropTrigger_85 rfl rfl (by decide) rfl (by omega) rfl ?_
                refine w_iinc (nx := 89) (lo2 := [(3, .int (nI (q + 1))), (0, .ref (a 0)), (1, .int (nI ji)), (2, .int (nI (103 + 8 * ((sR (xS X)).1 - 1))))]) C (nI (q + 1)) 3 dX9_dropTrigger_86 rfl rfl (nI_add _ _) (by decide) rfl ?_
                refine w_goto (nx := 71) C dX9_dropTrigger_89 rfl ?_
                refine ww_lo [1, 2, 3, 0] (lo' := [(0, .ref (a 0)), (1, .int (nI ji)), (2, .int (nI (103 + 8 * ((sR (xS X)).1 - 1)))), (3, .int (nI (q + 1)))]) rfl ?_
                exact ih9_71 (upd p2 (103 + 8 * ((sR (xS X)).1 - 1) + q) (nI 0)) (q + 1) (by first | assumption | omega) (fun i hi => (Nat.lt_or_ge i q).elim (fun z => (upd_n (by omega)).trans (hb1 i z)) (fun z => by have e9 : i = q := (by omega); subst e9; exact upd_e rfl)) (fun j hj => (upd_n (by omega)).trans (hb2 j (by omega))) (by omega)
          refine ww_lo [1, 2, 3, 0] (lo' := [(0, .ref (a 0)), (1, .int (nI ji)), (2, .int (nI (103 + 8 * ((sR (xS X)).1 - 1)))), (3, .int (nI 0))]) rfl ?_
          exact LP_6 _ p1 0 (Nat.zero_le _) (fun i hi => absurd hi (Nat.not_lt_zero _)) (fun _ _ => rfl) (Nat.lt_succ_self _)
        · refine w_aload_n (nx := 49) C 0 dX9_dropTrigger_48 rfl rfl rfl ?_
          refine w_getM (nx := 52) C (.ref (a 1)) 0 1 dX9_dropTrigger_49 rfl wl_X9_7 rfl (by decide) rfl (mg_1 _ _) ?_
          refine w_iload_n (nx := 53) C 3 dX9_dropTrigger_52 rfl rfl rfl ?_
          refine w_aload_n (nx := 54) C 0 dX9_dropTrigger_53 rfl rfl rfl ?_
          refine w_getM (nx := 57) C (.ref (a 1)) 0 1 dX9_dropTrigger_54 rfl wl_X9_7 rfl (by decide) rfl (mg_1 _ _) ?_
          refine w_iload_n (nx := 58) C 3 dX9_dropTrigger_57 rfl rfl rfl ?_
          refine w_bipush (nx := 60) C (nI 8) dX9_dropTrigger_58 rfl (by decide) ?_
          refine w_iadd (nx := 61) C (nI (k + 8)) dX9_dropTrigger_60 rfl (nI_add _ _) ?_
          refine w_iald (nx := 62) C (p1 (k + 8)) 1 (k + 8) dX9_dropTrigger_61 rfl rfl (by decide) rfl (by omega) rfl ?_
          refine w_iast (nx := 63) (ws2 := [(a 0, mO a vR), (a 1, aI (kG κ) 800 (upd p1 k (p1 (k + 8)))), (a 2, aI (kG κ) 800 f2), (a 3, aI (kG κ) 4800 gR3), (a 5, aI (kG κ) 1600 f5), (a 6, aZ (kG κ) 2 f6), (a 7, aI (kG κ) 60 f7), (a 17, aI (kG κ) 12 f17), (a 21, aI (kG κ) 12 f21), (a 22, aI (kG κ) 12 f22), (a 23, aI (kG κ) 12 f23), (a 24, aI (kG κ) 12 f24), (a 25, aI (kG κ) 12 f25), (a 26, aI (kG κ) 12 f26), (a 27, aI (kG κ) 12 f27), (a 28, aI (kG κ) 12 f28), (a 29, aZ (kG κ) 4 f29), (a 31, aI (kG κ) 1300 f31), (a 32, aI (kG κ) 1300 f32), (a 33, aI (kG κ) 1300 f33), (a 34, aI (kG κ) 1300 f34), (a 35, aI (kG κ) 13000 f35), (a 36, aI (kG κ) 606 f36), (a 37, aI (kG κ) 12 f37), (a 38, aI (kG κ) 12 f38), (a 41, aI (kG κ) 64 f41)]) C 1 k dX9_dropTrigger_62 rfl rfl (by decide) rfl (by omega) rfl ?_
          refine w_iinc (nx := 66) (lo2 := [(3, .int (nI (k + 1))), (0, .ref (a 0)), (1, .int (nI ji)), (2, .int (nI (103 + 8 * ((sR (xS X)).1 - 1))))]) C (nI (k + 1)) 3 dX9_dropTrigger_63 rfl rfl (nI_add _ _) (by decide) rfl ?_
          refine w_goto (nx := 43) C dX9_dropTrigger_66 rfl ?_
          refine ww_lo [1, 2, 3, 0] (lo' := [(0, .ref (a 0)), (1, .int (nI ji)), (2, .int (nI (103 + 8 * ((sR (xS X)).1 - 1)))), (3, .int (nI (k + 1)))]) rfl ?_
          exact ih9_43 (upd p1 k (p1 (k + 8))) (k + 1) (by first | assumption | omega) (by first | assumption | omega) (fun j a b => (Nat.lt_or_ge j k).elim (fun z => (upd_n (by omega)).trans (ha1 j a z)) (fun z => by have e9 : j = k := (by omega); subst e9; exact (upd_e rfl).trans (ha2 _ (by omega)))) (fun j hj => (upd_n (by omega)).trans (ha2 j (by omega))) (by omega)
    refine ww_sel (l := [(a 0, mO a vR), (a 1, aI (kG κ) 800 f1), (a 2, aI (kG κ) 800 f2), (a 3, aI (kG κ) 4800 gR3), (a 5, aI (kG κ) 1600 f5), (a 6, aZ (kG κ) 2 f6), (a 7, aI (kG κ) 60 f7), (a 17, aI (kG κ) 12 f17), (a 21, aI (kG κ) 12 f21), (a 22, aI (kG κ) 12 f22), (a 23, aI (kG κ) 12 f23), (a 24, aI (kG κ) 12 f24), (a 25, aI (kG κ) 12 f25), (a 26, aI (kG κ) 12 f26), (a 27, aI (kG κ) 12 f27), (a 28, aI (kG κ) 12 f28), (a 29, aZ (kG κ) 4 f29), (a 31, aI (kG κ) 1300 f31), (a 32, aI (kG κ) 1300 f32), (a 33, aI (kG κ) 1300 f33), (a 34, aI (kG κ) 1300 f34), (a 35, aI (kG κ) 13000 f35), (a 36, aI (kG κ) 606 f36), (a 37, aI (kG κ) 12 f37), (a 38, aI (kG κ) 12 f38), (a 41, aI (kG κ) 64 f41)]) (pm_sel [0, 1, 3, 2, 4, 5, 6, 7, 8, 9, 10, 11, 12, 13, 14, 15, 16, 17, 18, 19, 20, 21, 22, 23, 24, 25] 26 (by decide +kernel) rfl rfl) ?_
    refine ww_lo [2, 3, 1, 0] (lo' := [(0, .ref (a 0)), (1, .int (nI ji)), (2, .int (nI (103 + (8 * ((sR (xS X)).1 - 1))))), (3, .int (nI (103 + 8 * ji)))]) rfl ?_
    exact LP_4 _ f1 (103 + 8 * ji) (Nat.le_refl _) (by first | assumption | omega) (fun j a b => absurd b (by omega)) (fun _ _ => rfl) (Nat.lt_succ_self _)
  · have hno := h_2
    refine w_iconst (nx := 14) C (-1) dX9_dropTrigger_13 rfl (by decide) ?_
    have ho9 : o_dropTrigger X qi = ((-1), X) := by unfold o_dropTrigger; rw [if_pos hno]
    refine w_iret (ty := .int) C E dX9_dropTrigger_14 rfl rfl (Nat.le_refl _) (Nat.le_refl _) ?_
    rw [ho9]
    exact ⟨_, rfl, rfl, _, _, _, _, _, _, _, _, _, _, _, _, _, _, _, _, _, _, _, _, _, _, _, _, _, _, _, rfl, rfl, hO, hS, hU, hUn, hSl, hPd, h18⟩
set_option maxHeartbeats 4000000 in
set_option maxRecDepth 100000 in
theorem c_X9_row (l : Launch) (G : GG) (h : Nat) (w : va_W) (X : SX) (qt : Int32) (qp : Int32) (qw : Int32) (hRX : RMX G h w X) : MT l G yX9_row cX9_row 4 (some .int) 3 0 0 [.ref h, .int qt, .int qp, .int qw] ((w)) (fun v9 ws9 => ∃ (w2 : va_W), v9 = some (.int ((o_row X qt qp qw).1)) ∧ ws9 = ((w2)) ∧ RMX G h w2 (o_row X qt qp qw).2) := by
  refine RMX_elim hRX (fun a v f1 f2 f3 f5 f6 f7 f17 f21 f22 f23 f24 f25 f26 f27 f28 f29 f31 f32 f33 f34 f35 f36 f37 f38 f41 hw9 hh hO hS hU hUn hSl hPd h18 => ?_)
  subst hw9
  subst hh
  refine MT.of RX9 [(0, .ref (a 0)), (1, .int qt), (2, .int qp), (3, .int qw)] (by decide +kernel) rfl rfl (Nat.le_of_ble_eq_true rfl) (fun κ C E hl9 hG9 hnm9 => ?_)
  subst hl9; subst hG9
  have hn12 := hO.1.2.2.2.1.1
  have hj100 := hO.1.2.2.2.2
  have hz6 := hO.2.1.1
  have hp60 := hO.2.2.2.1
  have hd8 := hO.1.1
  have hl1 := hO.1.2.1
  have hzT := hO.1.2.2.1
  refine w_aload_n (nx := 1) C 0 dX9_row_0 rfl rfl rfl ?_
  refine w_iconst (nx := 2) C (nI 0) dX9_row_1 rfl (by decide) ?_
  refine w_putM (nx := 5) (ws2 := [(a 0, mO a (upd v 0 (nI 0))), (a 1, aI (kG κ) 800 f1), (a 2, aI (kG κ) 800 f2), (a 3, aI (kG κ) 4800 f3), (a 5, aI (kG κ) 1600 f5), (a 6, aZ (kG κ) 2 f6), (a 7, aI (kG κ) 60 f7), (a 17, aI (kG κ) 12 f17), (a 21, aI (kG κ) 12 f21), (a 22, aI (kG κ) 12 f22), (a 23, aI (kG κ) 12 f23), (a 24, aI (kG κ) 12 f24), (a 25, aI (kG κ) 12 f25), (a 26, aI (kG κ) 12 f26), (a 27, aI (kG κ) 12 f27), (a 28, aI (kG κ) 12 f28), (a 29, aZ (kG κ) 4 f29), (a 31, aI (kG κ) 1300 f31), (a 32, aI (kG κ) 1300 f32), (a 33, aI (kG κ) 1300 f33), (a 34, aI (kG κ) 1300 f34), (a 35, aI (kG κ) 13000 f35), (a 36, aI (kG κ) 606 f36), (a 37, aI (kG κ) 12 f37), (a 38, aI (kG κ) 12 f38), (a 41, aI (kG κ) 64 f41)]) C 0 0 dX9_row_2 rfl wl_X9_90 rfl (by decide) rfl rfl rfl (ms_0 _ _ _) rfl ?_
  refine w_iload_n (nx := 6) C 1 dX9_row_5 rfl rfl rfl ?_
  refine w_callS (nx := 9) (wr := [(a 0, mO a (upd v 0 (nI 0))), (a 1, aI (kG κ) 800 f1), (a 2, aI (kG κ) 800 f2), (a 3, aI (kG κ) 4800 f3), (a 5, aI (kG κ) 1600 f5), (a 6, aZ (kG κ) 2 f6), (a 7, aI (kG κ) 60 f7), (a 17, aI (kG κ) 12 f17), (a 21, aI (kG κ) 12 f21), (a 22, aI (kG κ) 12 f22), (a 23, aI (kG κ) 12 f23), (a 24, aI (kG κ) 12 f24), (a 25, aI (kG κ) 12 f25), (a 26, aI (kG κ) 12 f26), (a 27, aI (kG κ) 12 f27), (a 28, aI (kG κ) 12 f28), (a 29, aZ (kG κ) 4 f29), (a 31, aI (kG κ) 1300 f31), (a 32, aI (kG κ) 1300 f32), (a 33, aI (kG κ) 1300 f33), (a 34, aI (kG κ) 1300 f34), (a 35, aI (kG κ) 13000 f35), (a 36, aI (kG κ) 606 f36), (a 37, aI (kG κ) 12 f37), (a 38, aI (kG κ) 12 f38), (a 41, aI (kG κ) 64 f41)]) (rest := []) C ms_X9_isTable (c_X9_isTable _ _ qt) dX9_row_6 rfl wl_X9_201 rfl (pm_sel [0, 1, 2, 3, 4, 5, 6, 7, 8, 9, 10, 11, 12, 13, 14, 15, 16, 17, 18, 19, 20, 21, 22, 23, 24, 25] 26 (by decide +kernel) rfl rfl) rfl rfl (Nat.le_of_ble_eq_true rfl) (Nat.le_of_ble_eq_true rfl) (Nat.le_of_ble_eq_true rfl) (Nat.zero_le _) (Nat.zero_le _) (fun v9 w9 R_1 => ?_)
  obtain ⟨rfl, rfl⟩ := R_1
  show WW κ 0 0 [(a 0, mO a (upd v 0 (nI 0))), (a 1, aI (kG κ) 800 f1), (a 2, aI (kG κ) 800 f2), (a 3, aI (kG κ) 4800 f3), (a 5, aI (kG κ) 1600 f5), (a 6, aZ (kG κ) 2 f6), (a 7, aI (kG κ) 60 f7), (a 17, aI (kG κ) 12 f17), (a 21, aI (kG κ) 12 f21), (a 22, aI (kG κ) 12 f22), (a 23, aI (kG κ) 12 f23), (a 24, aI (kG κ) 12 f24), (a 25, aI (kG κ) 12 f25), (a 26, aI (kG κ) 12 f26), (a 27, aI (kG κ) 12 f27), (a 28, aI (kG κ) 12 f28), (a 29, aZ (kG κ) 4 f29), (a 31, aI (kG κ) 1300 f31), (a 32, aI (kG κ) 1300 f32), (a 33, aI (kG κ) 1300 f33), (a 34, aI (kG κ) 1300 f34), (a 35, aI (kG κ) 13000 f35), (a 36, aI (kG κ) 606 f36), (a 37, aI (kG κ) 12 f37), (a 38, aI (kG κ) 12 f38), (a 41, aI (kG κ) 64 f41)] 9 [(0, .ref (a 0)), (1, .int qt), (2, .int qp), (3, .int qw)] [.int (bC (wi qt 4))]
  refine b_if_eq (tg := 27) (nx := 12) C dX9_row_9 rfl rfl (fun h_2 => ?_) (fun h_2 => ?_)
  · have hno := h_2
    refine w_iconst (nx := 28) C (-1) dX9_row_27 rfl (by decide) ?_
    have ho9 : o_row X qt qp qw = ((-1), X) := by unfold o_row; rw [if_pos hno]
    refine w_iret (ty := .int) C E dX9_row_28 rfl rfl (Nat.le_refl _) (Nat.le_refl _) ?_
    rw [ho9]
    exact ⟨_, rfl, rfl, _, _, _, _, _, _, _, _, _, _, _, _, _, _, _, _, _, _, _, _, _, _, _, _, _, _, _, rfl, rfl, hO, hS, hU, hUn, hSl, hPd, h18⟩
  · obtain ⟨jt, hjt, rfl⟩ := h_2
    have hzt := (hzT jt hjt).1
    refine w_iload_n (nx := 13) C 2 dX9_row_12 rfl rfl rfl ?_
    refine w_iconst (nx := 14) C (nI 0) dX9_row_13 rfl (by decide) ?_
    refine w_aload_n (nx := 15) C 0 dX9_row_14 rfl rfl rfl ?_
    refine w_iload_n (nx := 16) C 1 dX9_row_15 rfl rfl rfl ?_
    refine w_callV (nx := 19) (wr := [(a 2, aI (kG κ) 800 f2), (a 3, aI (kG κ) 4800 f3), (a 5, aI (kG κ) 1600 f5), (a 6, aZ (kG κ) 2 f6), (a 7, aI (kG κ) 60 f7), (a 17, aI (kG κ) 12 f17), (a 21, aI (kG κ) 12 f21), (a 22, aI (kG κ) 12 f22), (a 23, aI (kG κ) 12 f23), (a 24, aI (kG κ) 12 f24), (a 25, aI (kG κ) 12 f25), (a 26, aI (kG κ) 12 f26), (a 27, aI (kG κ) 12 f27), (a 28, aI (kG κ) 12 f28), (a 29, aZ (kG κ) 4 f29), (a 31, aI (kG κ) 1300 f31), (a 32, aI (kG κ) 1300 f32), (a 33, aI (kG κ) 1300 f33), (a 34, aI (kG κ) 1300 f34), (a 35, aI (kG κ) 13000 f35), (a 36, aI (kG κ) 606 f36), (a 37, aI (kG κ) 12 f37), (a 38, aI (kG κ) 12 f38), (a 41, aI (kG κ) 64 f41)]) (rest := [.int (nI 0), .int qp]) C mi_X9_rows (c_X9_rows _ _ a (upd v 0 (nI 0)) f1 (sT (xS X)) jt (hS.2.2.1) (hO.1.2.2.1) (by first | assumption | omega)) 0 dX9_row_16 rfl wl_X9_100 rfl rfl rfl (pm_sel [0, 1, 2, 3, 4, 5, 6, 7, 8, 9, 10, 11, 12, 13, 14, 15, 16, 17, 18, 19, 20, 21, 22, 23, 24, 25] 26 (by decide +kernel) rfl rfl) rfl rfl (Nat.le_of_ble_eq_true rfl) (Nat.le_of_ble_eq_true rfl) (Nat.le_of_ble_eq_true rfl) (Nat.zero_le _) (Nat.zero_le _) (fun v9 w9 R_3 => ?_)
    obtain ⟨rfl, rfl⟩ := R_3
    show WW κ 0 0 [(a 0, mO a (upd v 0 (nI 0))), (a 1, aI (kG κ) 800 f1), (a 2, aI (kG κ) 800 f2), (a 3, aI (kG κ) 4800 f3), (a 5, aI (kG κ) 1600 f5), (a 6, aZ (kG κ) 2 f6), (a 7, aI (kG κ) 60 f7), (a 17, aI (kG κ) 12 f17), (a 21, aI (kG κ) 12 f21), (a 22, aI (kG κ) 12 f22), (a 23, aI (kG κ) 12 f23), (a 24, aI (kG κ) 12 f24), (a 25, aI (kG κ) 12 f25), (a 26, aI (kG κ) 12 f26), (a 27, aI (kG κ) 12 f27), (a 28, aI (kG κ) 12 f28), (a 29, aZ (kG κ) 4 f29), (a 31, aI (kG κ) 1300 f31), (a 32, aI (kG κ) 1300 f32), (a 33, aI (kG κ) 1300 f33), (a 34, aI (kG κ) 1300 f34), (a 35, aI (kG κ) 13000 f35), (a 36, aI (kG κ) 606 f36), (a 37, aI (kG κ) 12 f37), (a 38, aI (kG κ) 12 f38), (a 41, aI (kG κ) 64 f41)] 19 [(0, .ref (a 0)), (1, .int (nI jt)), (2, .int qp), (3, .int qw)] [.int (nI (zT (sT (xS X)) jt)), .int (nI 0), .int qp]
    refine w_iconst (nx := 20) C (nI 1) dX9_row_19 rfl (by decide) ?_
    refine w_isub (nx := 21) C (nI (zT (sT (xS X)) jt) - nI 1) dX9_row_20 rfl rfl ?_
    refine w_callS (nx := 24) (wr := [(a 0, mO a (upd v 0 (nI 0))), (a 1, aI (kG κ) 800 f1), (a 2, aI (kG κ) 800 f2), (a 3, aI (kG κ) 4800 f3), (a 5, aI (kG κ) 1600 f5), (a 6, aZ (kG κ) 2 f6), (a 7, aI (kG κ) 60 f7), (a 17, aI (kG κ) 12 f17), (a 21, aI (kG κ) 12 f21), (a 22, aI (kG κ) 12 f22), (a 23, aI (kG κ) 12 f23), (a 24, aI (kG κ) 12 f24), (a 25, aI (kG κ) 12 f25), (a 26, aI (kG κ) 12 f26), (a 27, aI (kG κ) 12 f27), (a 28, aI (kG κ) 12 f28), (a 29, aZ (kG κ) 4 f29), (a 31, aI (kG κ) 1300 f31), (a 32, aI (kG κ) 1300 f32), (a 33, aI (kG κ) 1300 f33), (a 34, aI (kG κ) 1300 f34), (a 35, aI (kG κ) 13000 f35), (a 36, aI (kG κ) 606 f36), (a 37, aI (kG κ) 12 f37), (a 38, aI (kG κ) 12 f38), (a 41, aI (kG κ) 64 f41)]) (rest := []) C ms_X9_in (c_X9_in_w _ _ qp (zT (sT (xS X)) jt) (nI (zT (sT (xS X)) jt) - nI 1) ((by omega)) (pk_sub_toInt (by omega) (by decide))) dX9_row_21 rfl wl_X9_93 rfl (pm_sel [0, 1, 2, 3, 4, 5, 6, 7, 8, 9, 10, 11, 12, 13, 14, 15, 16, 17, 18, 19, 20, 21, 22, 23, 24, 25] 26 (by decide +kernel) rfl rfl) rfl rfl (Nat.le_of_ble_eq_true rfl) (Nat.le_of_ble_eq_true rfl) (Nat.le_of_ble_eq_true rfl) (Nat.zero_le _) (Nat.zero_le _) (fun v9 w9 R_4 => ?_)
    obtain ⟨rfl, rfl⟩ := R_4
    show WW κ 0 0 [(a 0, mO a (upd v 0 (nI 0))), (a 1, aI (kG κ) 800 f1), (a 2, aI (kG κ) 800 f2), (a 3, aI (kG κ) 4800 f3), (a 5, aI (kG κ) 1600 f5), (a 6, aZ (kG κ) 2 f6), (a 7, aI (kG κ) 60 f7), (a 17, aI (kG κ) 12 f17), (a 21, aI (kG κ) 12 f21), (a 22, aI (kG κ) 12 f22), (a 23, aI (kG κ) 12 f23), (a 24, aI (kG κ) 12 f24), (a 25, aI (kG κ) 12 f25), (a 26, aI (kG κ) 12 f26), (a 27, aI (kG κ) 12 f27), (a 28, aI (kG κ) 12 f28), (a 29, aZ (kG κ) 4 f29), (a 31, aI (kG κ) 1300 f31), (a 32, aI (kG κ) 1300 f32), (a 33, aI (kG κ) 1300 f33), (a 34, aI (kG κ) 1300 f34), (a 35, aI (kG κ) 13000 f35), (a 36, aI (kG κ) 606 f36), (a 37, aI (kG κ) 12 f37), (a 38, aI (kG κ) 12 f38), (a 41, aI (kG κ) 64 f41)] 24 [(0, .ref (a 0)), (1, .int (nI jt)), (2, .int qp), (3, .int qw)] [.int (bC (wi qp (zT (sT (xS X)) jt)))]
    refine b_if_ne (tg := 29) (nx := 27) C dX9_row_24 rfl rfl (fun h_5 => ?_) (fun h_5 => ?_)
    · obtain ⟨jp, hjp, rfl⟩ := h_5
      refine w_iload_n (nx := 30) C 3 dX9_row_29 rfl rfl rfl ?_
      refine w_iconst (nx := 31) C (nI 0) dX9_row_30 rfl (by decide) ?_
      refine w_iconst (nx := 32) C (nI 1) dX9_row_31 rfl (by decide) ?_
      refine w_callS (nx := 35) (wr := [(a 0, mO a (upd v 0 (nI 0))), (a 1, aI (kG κ) 800 f1), (a 2, aI (kG κ) 800 f2), (a 3, aI (kG κ) 4800 f3), (a 5, aI (kG κ) 1600 f5), (a 6, aZ (kG κ) 2 f6), (a 7, aI (kG κ) 60 f7), (a 17, aI (kG κ) 12 f17), (a 21, aI (kG κ) 12 f21), (a 22, aI (kG κ) 12 f22), (a 23, aI (kG κ) 12 f23), (a 24, aI (kG κ) 12 f24), (a 25, aI (kG κ) 12 f25), (a 26, aI (kG κ) 12 f26), (a 27, aI (kG κ) 12 f27), (a 28, aI (kG κ) 12 f28), (a 29, aZ (kG κ) 4 f29), (a 31, aI (kG κ) 1300 f31), (a 32, aI (kG κ) 1300 f32), (a 33, aI (kG κ) 1300 f33), (a 34, aI (kG κ) 1300 f34), (a 35, aI (kG κ) 13000 f35), (a 36, aI (kG κ) 606 f36), (a 37, aI (kG κ) 12 f37), (a 38, aI (kG κ) 12 f38), (a 41, aI (kG κ) 64 f41)]) (rest := []) C ms_X9_in (c_X9_in_w _ _ qw 2 (nI 1) (by decide) (by decide)) dX9_row_32 rfl wl_X9_93 rfl (pm_sel [0, 1, 2, 3, 4, 5, 6, 7, 8, 9, 10, 11, 12, 13, 14, 15, 16, 17, 18, 19, 20, 21, 22, 23, 24, 25] 26 (by decide +kernel) rfl rfl) rfl rfl (Nat.le_of_ble_eq_true rfl) (Nat.le_of_ble_eq_true rfl) (Nat.le_of_ble_eq_true rfl) (Nat.zero_le _) (Nat.zero_le _) (fun v9 w9 R_6 => ?_)
      obtain ⟨rfl, rfl⟩ := R_6
      show WW κ 0 0 [(a 0, mO a (upd v 0 (nI 0))), (a 1, aI (kG κ) 800 f1), (a 2, aI (kG κ) 800 f2), (a 3, aI (kG κ) 4800 f3), (a 5, aI (kG κ) 1600 f5), (a 6, aZ (kG κ) 2 f6), (a 7, aI (kG κ) 60 f7), (a 17, aI (kG κ) 12 f17), (a 21, aI (kG κ) 12 f21), (a 22, aI (kG κ) 12 f22), (a 23, aI (kG κ) 12 f23), (a 24, aI (kG κ) 12 f24), (a 25, aI (kG κ) 12 f25), (a 26, aI (kG κ) 12 f26), (a 27, aI (kG κ) 12 f27), (a 28, aI (kG κ) 12 f28), (a 29, aZ (kG κ) 4 f29), (a 31, aI (kG κ) 1300 f31), (a 32, aI (kG κ) 1300 f32), (a 33, aI (kG κ) 1300 f33), (a 34, aI (kG κ) 1300 f34), (a 35, aI (kG κ) 13000 f35), (a 36, aI (kG κ) 606 f36), (a 37, aI (kG κ) 12 f37), (a 38, aI (kG κ) 12 f38), (a 41, aI (kG κ) 64 f41)] 35 [(0, .ref (a 0)), (1, .int (nI jt)), (2, .int (nI jp)), (3, .int qw)] [.int (bC (wi qw 2))]
      refine b_if_eq (tg := 53) (nx := 38) C dX9_row_35 rfl rfl (fun h_7 => ?_) (fun h_7 => ?_)
      · have hno := h_7
        refine w_bipush (nx := 55) C (-2) dX9_row_53 rfl (by decide) ?_
        have ho9 : o_row X (nI jt) (nI jp) qw = ((-2), X) := by unfold o_row; rw [if_neg (fun z => z ⟨jt, hjt, rfl⟩), tn_nI (show jt < 2 ^ 31 by omega), if_neg (fun z => z ⟨jp, hjp, rfl⟩), tn_nI (show jp < 2 ^ 31 by omega), if_neg (show ¬ qw = 0 from fun z => hno ⟨0, by decide, z⟩), if_neg (show ¬ qw = 1 from fun z => hno ⟨1, by decide, z⟩)]
        refine w_iret (ty := .int) C E dX9_row_55 rfl rfl (Nat.le_refl _) (Nat.le_refl _) ?_
        rw [ho9]
        exact ⟨_, rfl, rfl, _, _, _, _, _, _, _, _, _, _, _, _, _, _, _, _, _, _, _, _, _, _, _, _, _, _, _, rfl, rfl, hO, hS, hU, hUn, hSl, hPd, h18⟩
      · obtain ⟨jw, hjw, rfl⟩ := h_7
        rcases (show jw = 0 ∨ jw = 1 by omega) with rfl | rfl
        · show WW κ 0 0 [(a 0, mO a (upd v 0 (nI 0))), (a 1, aI (kG κ) 800 f1), (a 2, aI (kG κ) 800 f2), (a 3, aI (kG κ) 4800 f3), (a 5, aI (kG κ) 1600 f5), (a 6, aZ (kG κ) 2 f6), (a 7, aI (kG κ) 60 f7), (a 17, aI (kG κ) 12 f17), (a 21, aI (kG κ) 12 f21), (a 22, aI (kG κ) 12 f22), (a 23, aI (kG κ) 12 f23), (a 24, aI (kG κ) 12 f24), (a 25, aI (kG κ) 12 f25), (a 26, aI (kG κ) 12 f26), (a 27, aI (kG κ) 12 f27), (a 28, aI (kG κ) 12 f28), (a 29, aZ (kG κ) 4 f29), (a 31, aI (kG κ) 1300 f31), (a 32, aI (kG κ) 1300 f32), (a 33, aI (kG κ) 1300 f33), (a 34, aI (kG κ) 1300 f34), (a 35, aI (kG κ) 13000 f35), (a 36, aI (kG κ) 606 f36), (a 37, aI (kG κ) 12 f37), (a 38, aI (kG κ) 12 f38), (a 41, aI (kG κ) 64 f41)] 38 [(0, .ref (a 0)), (1, .int (nI jt)), (2, .int (nI jp)), (3, .int (nI 0))] []
          refine w_aload_n (nx := 39) C 0 dX9_row_38 rfl rfl rfl ?_
          refine w_getM (nx := 42) C (.ref (a 1)) 0 1 dX9_row_39 rfl wl_X9_7 rfl (by decide) rfl (mg_1 _ _) ?_
          refine w_iload_n (nx := 43) C 1 dX9_row_42 rfl rfl rfl ?_
          refine w_iload_n (nx := 44) C 2 dX9_row_43 rfl rfl rfl ?_
          refine w_callS (nx := 47) (wr := [(a 0, mO a (upd v 0 (nI 0))), (a 1, aI (kG κ) 800 f1), (a 2, aI (kG κ) 800 f2), (a 3, aI (kG κ) 4800 f3), (a 5, aI (kG κ) 1600 f5), (a 6, aZ (kG κ) 2 f6), (a 7, aI (kG κ) 60 f7), (a 17, aI (kG κ) 12 f17), (a 21, aI (kG κ) 12 f21), (a 22, aI (kG κ) 12 f22), (a 23, aI (kG κ) 12 f23), (a 24, aI (kG κ) 12 f24), (a 25, aI (kG κ) 12 f25), (a 26, aI (kG κ) 12 f26), (a 27, aI (kG κ) 12 f27), (a 28, aI (kG κ) 12 f28), (a 29, aZ (kG κ) 4 f29), (a 31, aI (kG κ) 1300 f31), (a 32, aI (kG κ) 1300 f32), (a 33, aI (kG κ) 1300 f33), (a 34, aI (kG κ) 1300 f34), (a 35, aI (kG κ) 13000 f35), (a 36, aI (kG κ) 606 f36), (a 37, aI (kG κ) 12 f37), (a 38, aI (kG κ) 12 f38), (a 41, aI (kG κ) 64 f41)]) (rest := [.ref (a 1)]) C ms_X9_rowAt (c_X9_rowAt _ _ jt jp) dX9_row_44 rfl wl_X9_104 rfl (pm_sel [0, 1, 2, 3, 4, 5, 6, 7, 8, 9, 10, 11, 12, 13, 14, 15, 16, 17, 18, 19, 20, 21, 22, 23, 24, 25] 26 (by decide +kernel) rfl rfl) rfl rfl (Nat.le_of_ble_eq_true rfl) (Nat.le_of_ble_eq_true rfl) (Nat.le_of_ble_eq_true rfl) (Nat.zero_le _) (Nat.zero_le _) (fun v9 w9 R_8 => ?_)
          obtain ⟨rfl, rfl⟩ := R_8
          show WW κ 0 0 [(a 0, mO a (upd v 0 (nI 0))), (a 1, aI (kG κ) 800 f1), (a 2, aI (kG κ) 800 f2), (a 3, aI (kG κ) 4800 f3), (a 5, aI (kG κ) 1600 f5), (a 6, aZ (kG κ) 2 f6), (a 7, aI (kG κ) 60 f7), (a 17, aI (kG κ) 12 f17), (a 21, aI (kG κ) 12 f21), (a 22, aI (kG κ) 12 f22), (a 23, aI (kG κ) 12 f23), (a 24, aI (kG κ) 12 f24), (a 25, aI (kG κ) 12 f25), (a 26, aI (kG κ) 12 f26), (a 27, aI (kG κ) 12 f27), (a 28, aI (kG κ) 12 f28), (a 29, aZ (kG κ) 4 f29), (a 31, aI (kG κ) 1300 f31), (a 32, aI (kG κ) 1300 f32), (a 33, aI (kG κ) 1300 f33), (a 34, aI (kG κ) 1300 f34), (a 35, aI (kG κ) 13000 f35), (a 36, aI (kG κ) 606 f36), (a 37, aI (kG κ) 12 f37), (a 38, aI (kG κ) 12 f38), (a 41, aI (kG κ) 64 f41)] 47 [(0, .ref (a 0)), (1, .int (nI jt)), (2, .int (nI jp)), (3, .int (nI 0))] [.int (nI (2 + 25 * jt + 1 + 2 * jp)), .ref (a 1)]
          refine w_iload_n (nx := 48) C 3 dX9_row_47 rfl rfl rfl ?_
          refine w_iadd (nx := 49) C (nI (2 + 25 * jt + 1 + 2 * jp + 0)) dX9_row_48 rfl (nI_add _ _) ?_
          refine w_iald (nx := 50) C (nI (kT (sT (xS X)) jt jp)) 1 (2 + 25 * jt + 1 + 2 * jp + 0) dX9_row_49 rfl rfl (by decide) rfl (by omega) (rMT_k hS.2.2.1 hjt hjp) ?_
          refine w_goto (nx := 55) C dX9_row_50 rfl ?_
          have ho9 : o_row X (nI jt) (nI jp) (nI 0) = ((nI (kT (sT (xS X)) jt jp)), X) := by unfold o_row; rw [if_neg (fun z => z ⟨jt, hjt, rfl⟩), tn_nI (show jt < 2 ^ 31 by omega), if_neg (fun z => z ⟨jp, hjp, rfl⟩), tn_nI (show jp < 2 ^ 31 by omega), if_pos (show nI 0 = 0 by decide)]
          refine w_iret (ty := .int) C E dX9_row_55 rfl rfl (Nat.le_refl _) (Nat.le_refl _) ?_
          rw [ho9]
          exact ⟨_, rfl, rfl, _, _, _, _, _, _, _, _, _, _, _, _, _, _, _, _, _, _, _, _, _, _, _, _, _, _, _, rfl, rfl, hO, hS, hU, hUn, hSl, hPd, h18⟩
        · show WW κ 0 0 [(a 0, mO a (upd v 0 (nI 0))), (a 1, aI (kG κ) 800 f1), (a 2, aI (kG κ) 800 f2), (a 3, aI (kG κ) 4800 f3), (a 5, aI (kG κ) 1600 f5), (a 6, aZ (kG κ) 2 f6), (a 7, aI (kG κ) 60 f7), (a 17, aI (kG κ) 12 f17), (a 21, aI (kG κ) 12 f21), (a 22, aI (kG κ) 12 f22), (a 23, aI (kG κ) 12 f23), (a 24, aI (kG κ) 12 f24), (a 25, aI (kG κ) 12 f25), (a 26, aI (kG κ) 12 f26), (a 27, aI (kG κ) 12 f27), (a 28, aI (kG κ) 12 f28), (a 29, aZ (kG κ) 4 f29), (a 31, aI (kG κ) 1300 f31), (a 32, aI (kG κ) 1300 f32), (a 33, aI (kG κ) 1300 f33), (a 34, aI (kG κ) 1300 f34), (a 35, aI (kG κ) 13000 f35), (a 36, aI (kG κ) 606 f36), (a 37, aI (kG κ) 12 f37), (a 38, aI (kG κ) 12 f38), (a 41, aI (kG κ) 64 f41)] 38 [(0, .ref (a 0)), (1, .int (nI jt)), (2, .int (nI jp)), (3, .int (nI 1))] []
          refine w_aload_n (nx := 39) C 0 dX9_row_38 rfl rfl rfl ?_
          refine w_getM (nx := 42) C (.ref (a 1)) 0 1 dX9_row_39 rfl wl_X9_7 rfl (by decide) rfl (mg_1 _ _) ?_
          refine w_iload_n (nx := 43) C 1 dX9_row_42 rfl rfl rfl ?_
          refine w_iload_n (nx := 44) C 2 dX9_row_43 rfl rfl rfl ?_
          refine w_callS (nx := 47) (wr := [(a 0, mO a (upd v 0 (nI 0))), (a 1, aI (kG κ) 800 f1), (a 2, aI (kG κ) 800 f2), (a 3, aI (kG κ) 4800 f3), (a 5, aI (kG κ) 1600 f5), (a 6, aZ (kG κ) 2 f6), (a 7, aI (kG κ) 60 f7), (a 17, aI (kG κ) 12 f17), (a 21, aI (kG κ) 12 f21), (a 22, aI (kG κ) 12 f22), (a 23, aI (kG κ) 12 f23), (a 24, aI (kG κ) 12 f24), (a 25, aI (kG κ) 12 f25), (a 26, aI (kG κ) 12 f26), (a 27, aI (kG κ) 12 f27), (a 28, aI (kG κ) 12 f28), (a 29, aZ (kG κ) 4 f29), (a 31, aI (kG κ) 1300 f31), (a 32, aI (kG κ) 1300 f32), (a 33, aI (kG κ) 1300 f33), (a 34, aI (kG κ) 1300 f34), (a 35, aI (kG κ) 13000 f35), (a 36, aI (kG κ) 606 f36), (a 37, aI (kG κ) 12 f37), (a 38, aI (kG κ) 12 f38), (a 41, aI (kG κ) 64 f41)]) (rest := [.ref (a 1)]) C ms_X9_rowAt (c_X9_rowAt _ _ jt jp) dX9_row_44 rfl wl_X9_104 rfl (pm_sel [0, 1, 2, 3, 4, 5, 6, 7, 8, 9, 10, 11, 12, 13, 14, 15, 16, 17, 18, 19, 20, 21, 22, 23, 24, 25] 26 (by decide +kernel) rfl rfl) rfl rfl (Nat.le_of_ble_eq_true rfl) (Nat.le_of_ble_eq_true rfl) (Nat.le_of_ble_eq_true rfl) (Nat.zero_le _) (Nat.zero_le _) (fun v9 w9 R_9 => ?_)
          obtain ⟨rfl, rfl⟩ := R_9
          show WW κ 0 0 [(a 0, mO a (upd v 0 (nI 0))), (a 1, aI (kG κ) 800 f1), (a 2, aI (kG κ) 800 f2), (a 3, aI (kG κ) 4800 f3), (a 5, aI (kG κ) 1600 f5), (a 6, aZ (kG κ) 2 f6), (a 7, aI (kG κ) 60 f7), (a 17, aI (kG κ) 12 f17), (a 21, aI (kG κ) 12 f21), (a 22, aI (kG κ) 12 f22), (a 23, aI (kG κ) 12 f23), (a 24, aI (kG κ) 12 f24), (a 25, aI (kG κ) 12 f25), (a 26, aI (kG κ) 12 f26), (a 27, aI (kG κ) 12 f27), (a 28, aI (kG κ) 12 f28), (a 29, aZ (kG κ) 4 f29), (a 31, aI (kG κ) 1300 f31), (a 32, aI (kG κ) 1300 f32), (a 33, aI (kG κ) 1300 f33), (a 34, aI (kG κ) 1300 f34), (a 35, aI (kG κ) 13000 f35), (a 36, aI (kG κ) 606 f36), (a 37, aI (kG κ) 12 f37), (a 38, aI (kG κ) 12 f38), (a 41, aI (kG κ) 64 f41)] 47 [(0, .ref (a 0)), (1, .int (nI jt)), (2, .int (nI jp)), (3, .int (nI 1))] [.int (nI (2 + 25 * jt + 1 + 2 * jp)), .ref (a 1)]
          refine w_iload_n (nx := 48) C 3 dX9_row_47 rfl rfl rfl ?_
          refine w_iadd (nx := 49) C (nI (2 + 25 * jt + 1 + 2 * jp + 1)) dX9_row_48 rfl (nI_add _ _) ?_
          refine w_iald (nx := 50) C (nI (nT (sT (xS X)) jt jp)) 1 (2 + 25 * jt + 1 + 2 * jp + 1) dX9_row_49 rfl rfl (by decide) rfl (by omega) (rMT_n hS.2.2.1 hjt hjp) ?_
          refine w_goto (nx := 55) C dX9_row_50 rfl ?_
          have ho9 : o_row X (nI jt) (nI jp) (nI 1) = ((nI (nT (sT (xS X)) jt jp)), X) := by unfold o_row; rw [if_neg (fun z => z ⟨jt, hjt, rfl⟩), tn_nI (show jt < 2 ^ 31 by omega), if_neg (fun z => z ⟨jp, hjp, rfl⟩), tn_nI (show jp < 2 ^ 31 by omega), if_neg (show ¬ nI 1 = 0 by decide), if_pos (show nI 1 = 1 by decide)]
          refine w_iret (ty := .int) C E dX9_row_55 rfl rfl (Nat.le_refl _) (Nat.le_refl _) ?_
          rw [ho9]
          exact ⟨_, rfl, rfl, _, _, _, _, _, _, _, _, _, _, _, _, _, _, _, _, _, _, _, _, _, _, _, _, _, _, _, rfl, rfl, hO, hS, hU, hUn, hSl, hPd, h18⟩
    · have hno := h_5
      refine w_iconst (nx := 28) C (-1) dX9_row_27 rfl (by decide) ?_
      have ho9 : o_row X (nI jt) qp qw = ((-1), X) := by unfold o_row; rw [if_neg (fun z => z ⟨jt, hjt, rfl⟩), tn_nI (show jt < 2 ^ 31 by omega), if_pos hno]
      refine w_iret (ty := .int) C E dX9_row_28 rfl rfl (Nat.le_refl _) (Nat.le_refl _) ?_
      rw [ho9]
      exact ⟨_, rfl, rfl, _, _, _, _, _, _, _, _, _, _, _, _, _, _, _, _, _, _, _, _, _, _, _, _, _, _, _, rfl, rfl, hO, hS, hU, hUn, hSl, hPd, h18⟩
set_option maxHeartbeats 4000000 in
set_option maxRecDepth 100000 in
theorem c_X9_value (l : Launch) (G : GG) (h : Nat) (w : va_W) (X : SX) (qt : Int32) (qk : Int32) (hRX : RMX G h w X) : MT l G yX9_value cX9_value 3 (some .int) 4 0 0 [.ref h, .int qt, .int qk] ((w)) (fun v9 ws9 => ∃ (w2 : va_W), v9 = some (.int ((o_value X qt qk).1)) ∧ ws9 = ((w2)) ∧ RMX G h w2 (o_value X qt qk).2) := by
  refine RMX_elim hRX (fun a v f1 f2 f3 f5 f6 f7 f17 f21 f22 f23 f24 f25 f26 f27 f28 f29 f31 f32 f33 f34 f35 f36 f37 f38 f41 hw9 hh hO hS hU hUn hSl hPd h18 => ?_)
  subst hw9
  subst hh
  refine MT.of RX9 [(0, .ref (a 0)), (1, .int qt), (2, .int qk)] (by decide +kernel) rfl rfl (Nat.le_of_ble_eq_true rfl) (fun κ C E hl9 hG9 hnm9 => ?_)
  subst hl9; subst hG9
  have hn12 := hO.1.2.2.2.1.1
  have hj100 := hO.1.2.2.2.2
  have hz6 := hO.2.1.1
  have hp60 := hO.2.2.2.1
  have hd8 := hO.1.1
  have hl1 := hO.1.2.1
  have hzT := hO.1.2.2.1
  refine w_aload_n (nx := 1) C 0 dX9_value_0 rfl rfl rfl ?_
  refine w_iconst (nx := 2) C (nI 0) dX9_value_1 rfl (by decide) ?_
  refine w_putM (nx := 5) (ws2 := [(a 0, mO a (upd v 0 (nI 0))), (a 1, aI (kG κ) 800 f1), (a 2, aI (kG κ) 800 f2), (a 3, aI (kG κ) 4800 f3), (a 5, aI (kG κ) 1600 f5), (a 6, aZ (kG κ) 2 f6), (a 7, aI (kG κ) 60 f7), (a 17, aI (kG κ) 12 f17), (a 21, aI (kG κ) 12 f21), (a 22, aI (kG κ) 12 f22), (a 23, aI (kG κ) 12 f23), (a 24, aI (kG κ) 12 f24), (a 25, aI (kG κ) 12 f25), (a 26, aI (kG κ) 12 f26), (a 27, aI (kG κ) 12 f27), (a 28, aI (kG κ) 12 f28), (a 29, aZ (kG κ) 4 f29), (a 31, aI (kG κ) 1300 f31), (a 32, aI (kG κ) 1300 f32), (a 33, aI (kG κ) 1300 f33), (a 34, aI (kG κ) 1300 f34), (a 35, aI (kG κ) 13000 f35), (a 36, aI (kG κ) 606 f36), (a 37, aI (kG κ) 12 f37), (a 38, aI (kG κ) 12 f38), (a 41, aI (kG κ) 64 f41)]) C 0 0 dX9_value_2 rfl wl_X9_90 rfl (by decide) rfl rfl rfl (ms_0 _ _ _) rfl ?_
  refine w_iload_n (nx := 6) C 1 dX9_value_5 rfl rfl rfl ?_
  refine w_callS (nx := 9) (wr := [(a 0, mO a (upd v 0 (nI 0))), (a 1, aI (kG κ) 800 f1), (a 2, aI (kG κ) 800 f2), (a 3, aI (kG κ) 4800 f3), (a 5, aI (kG κ) 1600 f5), (a 6, aZ (kG κ) 2 f6), (a 7, aI (kG κ) 60 f7), (a 17, aI (kG κ) 12 f17), (a 21, aI (kG κ) 12 f21), (a 22, aI (kG κ) 12 f22), (a 23, aI (kG κ) 12 f23), (a 24, aI (kG κ) 12 f24), (a 25, aI (kG κ) 12 f25), (a 26, aI (kG κ) 12 f26), (a 27, aI (kG κ) 12 f27), (a 28, aI (kG κ) 12 f28), (a 29, aZ (kG κ) 4 f29), (a 31, aI (kG κ) 1300 f31), (a 32, aI (kG κ) 1300 f32), (a 33, aI (kG κ) 1300 f33), (a 34, aI (kG κ) 1300 f34), (a 35, aI (kG κ) 13000 f35), (a 36, aI (kG κ) 606 f36), (a 37, aI (kG κ) 12 f37), (a 38, aI (kG κ) 12 f38), (a 41, aI (kG κ) 64 f41)]) (rest := []) C ms_X9_isTable (c_X9_isTable _ _ qt) dX9_value_6 rfl wl_X9_201 rfl (pm_sel [0, 1, 2, 3, 4, 5, 6, 7, 8, 9, 10, 11, 12, 13, 14, 15, 16, 17, 18, 19, 20, 21, 22, 23, 24, 25] 26 (by decide +kernel) rfl rfl) rfl rfl (Nat.le_of_ble_eq_true rfl) (Nat.le_of_ble_eq_true rfl) (Nat.le_of_ble_eq_true rfl) (Nat.zero_le _) (Nat.zero_le _) (fun v9 w9 R_1 => ?_)
  obtain ⟨rfl, rfl⟩ := R_1
  show WW κ 0 0 [(a 0, mO a (upd v 0 (nI 0))), (a 1, aI (kG κ) 800 f1), (a 2, aI (kG κ) 800 f2), (a 3, aI (kG κ) 4800 f3), (a 5, aI (kG κ) 1600 f5), (a 6, aZ (kG κ) 2 f6), (a 7, aI (kG κ) 60 f7), (a 17, aI (kG κ) 12 f17), (a 21, aI (kG κ) 12 f21), (a 22, aI (kG κ) 12 f22), (a 23, aI (kG κ) 12 f23), (a 24, aI (kG κ) 12 f24), (a 25, aI (kG κ) 12 f25), (a 26, aI (kG κ) 12 f26), (a 27, aI (kG κ) 12 f27), (a 28, aI (kG κ) 12 f28), (a 29, aZ (kG κ) 4 f29), (a 31, aI (kG κ) 1300 f31), (a 32, aI (kG κ) 1300 f32), (a 33, aI (kG κ) 1300 f33), (a 34, aI (kG κ) 1300 f34), (a 35, aI (kG κ) 13000 f35), (a 36, aI (kG κ) 606 f36), (a 37, aI (kG κ) 12 f37), (a 38, aI (kG κ) 12 f38), (a 41, aI (kG κ) 64 f41)] 9 [(0, .ref (a 0)), (1, .int qt), (2, .int qk)] [.int (bC (wi qt 4))]
  refine b_if_ne (tg := 14) (nx := 12) C dX9_value_9 rfl rfl (fun h_2 => ?_) (fun h_2 => ?_)
  · obtain ⟨jt, hjt, rfl⟩ := h_2
    refine w_iload_n (nx := 15) C 2 dX9_value_14 rfl rfl rfl ?_
    refine w_iconst (nx := 16) C (nI 0) dX9_value_15 rfl (by decide) ?_
    refine w_bipush (nx := 18) C (nI 99) dX9_value_16 rfl (by decide) ?_
    refine w_callS (nx := 21) (wr := [(a 0, mO a (upd v 0 (nI 0))), (a 1, aI (kG κ) 800 f1), (a 2, aI (kG κ) 800 f2), (a 3, aI (kG κ) 4800 f3), (a 5, aI (kG κ) 1600 f5), (a 6, aZ (kG κ) 2 f6), (a 7, aI (kG κ) 60 f7), (a 17, aI (kG κ) 12 f17), (a 21, aI (kG κ) 12 f21), (a 22, aI (kG κ) 12 f22), (a 23, aI (kG κ) 12 f23), (a 24, aI (kG κ) 12 f24), (a 25, aI (kG κ) 12 f25), (a 26, aI (kG κ) 12 f26), (a 27, aI (kG κ) 12 f27), (a 28, aI (kG κ) 12 f28), (a 29, aZ (kG κ) 4 f29), (a 31, aI (kG κ) 1300 f31), (a 32, aI (kG κ) 1300 f32), (a 33, aI (kG κ) 1300 f33), (a 34, aI (kG κ) 1300 f34), (a 35, aI (kG κ) 13000 f35), (a 36, aI (kG κ) 606 f36), (a 37, aI (kG κ) 12 f37), (a 38, aI (kG κ) 12 f38), (a 41, aI (kG κ) 64 f41)]) (rest := []) C ms_X9_in (c_X9_in_w _ _ qk 100 (nI 99) (by decide) (by decide)) dX9_value_18 rfl wl_X9_93 rfl (pm_sel [0, 1, 2, 3, 4, 5, 6, 7, 8, 9, 10, 11, 12, 13, 14, 15, 16, 17, 18, 19, 20, 21, 22, 23, 24, 25] 26 (by decide +kernel) rfl rfl) rfl rfl (Nat.le_of_ble_eq_true rfl) (Nat.le_of_ble_eq_true rfl) (Nat.le_of_ble_eq_true rfl) (Nat.zero_le _) (Nat.zero_le _) (fun v9 w9 R_3 => ?_)
    obtain ⟨rfl, rfl⟩ := R_3
    show WW κ 0 0 [(a 0, mO a (upd v 0 (nI 0))), (a 1, aI (kG κ) 800 f1), (a 2, aI (kG κ) 800 f2), (a 3, aI (kG κ) 4800 f3), (a 5, aI (kG κ) 1600 f5), (a 6, aZ (kG κ) 2 f6), (a 7, aI (kG κ) 60 f7), (a 17, aI (kG κ) 12 f17), (a 21, aI (kG κ) 12 f21), (a 22, aI (kG κ) 12 f22), (a 23, aI (kG κ) 12 f23), (a 24, aI (kG κ) 12 f24), (a 25, aI (kG κ) 12 f25), (a 26, aI (kG κ) 12 f26), (a 27, aI (kG κ) 12 f27), (a 28, aI (kG κ) 12 f28), (a 29, aZ (kG κ) 4 f29), (a 31, aI (kG κ) 1300 f31), (a 32, aI (kG κ) 1300 f32), (a 33, aI (kG κ) 1300 f33), (a 34, aI (kG κ) 1300 f34), (a 35, aI (kG κ) 13000 f35), (a 36, aI (kG κ) 606 f36), (a 37, aI (kG κ) 12 f37), (a 38, aI (kG κ) 12 f38), (a 41, aI (kG κ) 64 f41)] 21 [(0, .ref (a 0)), (1, .int (nI jt)), (2, .int qk)] [.int (bC (wi qk 100))]
    refine b_if_eq (tg := 33) (nx := 24) C dX9_value_21 rfl rfl (fun h_4 => ?_) (fun h_4 => ?_)
    · have hno := h_4
      refine w_bipush (nx := 35) C (-2) dX9_value_33 rfl (by decide) ?_
      have ho9 : o_value X (nI jt) qk = ((-2), X) := by unfold o_value; rw [if_neg (fun z => z ⟨jt, hjt, rfl⟩), if_pos hno]
      refine w_iret (ty := .int) C E dX9_value_35 rfl rfl (Nat.le_refl _) (Nat.le_refl _) ?_
      rw [ho9]
      exact ⟨_, rfl, rfl, _, _, _, _, _, _, _, _, _, _, _, _, _, _, _, _, _, _, _, _, _, _, _, _, _, _, _, rfl, rfl, hO, hS, hU, hUn, hSl, hPd, h18⟩
    · obtain ⟨jk, hjk, rfl⟩ := h_4
      refine w_aload_n (nx := 25) C 0 dX9_value_24 rfl rfl rfl ?_
      refine w_iload_n (nx := 26) C 1 dX9_value_25 rfl rfl rfl ?_
      refine w_iload_n (nx := 27) C 2 dX9_value_26 rfl rfl rfl ?_
      refine w_callV (nx := 30) (wr := [(a 2, aI (kG κ) 800 f2), (a 3, aI (kG κ) 4800 f3), (a 5, aI (kG κ) 1600 f5), (a 6, aZ (kG κ) 2 f6), (a 7, aI (kG κ) 60 f7), (a 17, aI (kG κ) 12 f17), (a 21, aI (kG κ) 12 f21), (a 22, aI (kG κ) 12 f22), (a 23, aI (kG κ) 12 f23), (a 24, aI (kG κ) 12 f24), (a 25, aI (kG κ) 12 f25), (a 26, aI (kG κ) 12 f26), (a 27, aI (kG κ) 12 f27), (a 28, aI (kG κ) 12 f28), (a 29, aZ (kG κ) 4 f29), (a 31, aI (kG κ) 1300 f31), (a 32, aI (kG κ) 1300 f32), (a 33, aI (kG κ) 1300 f33), (a 34, aI (kG κ) 1300 f34), (a 35, aI (kG κ) 13000 f35), (a 36, aI (kG κ) 606 f36), (a 37, aI (kG κ) 12 f37), (a 38, aI (kG κ) 12 f38), (a 41, aI (kG κ) 64 f41)]) (rest := []) C mi_X9_numberOf (c_X9_numberOf _ _ a (upd v 0 (nI 0)) f1 (sT (xS X)) jt jk (hS.2.2.1) (hO.1.2.2.1) (by first | assumption | omega) (by first | assumption | omega)) 0 dX9_value_27 rfl wl_X9_111 rfl rfl rfl (pm_sel [0, 1, 2, 3, 4, 5, 6, 7, 8, 9, 10, 11, 12, 13, 14, 15, 16, 17, 18, 19, 20, 21, 22, 23, 24, 25] 26 (by decide +kernel) rfl rfl) rfl rfl (Nat.le_of_ble_eq_true rfl) (Nat.le_of_ble_eq_true rfl) (Nat.le_of_ble_eq_true rfl) (Nat.zero_le _) (Nat.zero_le _) (fun v9 w9 R_5 => ?_)
      rcases R_5 with ⟨rfl, rfl, hpl⟩ | ⟨rfl, rfl, hpl⟩
      · show WW κ 0 0 [(a 0, mO a (upd v 0 (nI 0))), (a 1, aI (kG κ) 800 f1), (a 2, aI (kG κ) 800 f2), (a 3, aI (kG κ) 4800 f3), (a 5, aI (kG κ) 1600 f5), (a 6, aZ (kG κ) 2 f6), (a 7, aI (kG κ) 60 f7), (a 17, aI (kG κ) 12 f17), (a 21, aI (kG κ) 12 f21), (a 22, aI (kG κ) 12 f22), (a 23, aI (kG κ) 12 f23), (a 24, aI (kG κ) 12 f24), (a 25, aI (kG κ) 12 f25), (a 26, aI (kG κ) 12 f26), (a 27, aI (kG κ) 12 f27), (a 28, aI (kG κ) 12 f28), (a 29, aZ (kG κ) 4 f29), (a 31, aI (kG κ) 1300 f31), (a 32, aI (kG κ) 1300 f32), (a 33, aI (kG κ) 1300 f33), (a 34, aI (kG κ) 1300 f34), (a 35, aI (kG κ) 13000 f35), (a 36, aI (kG κ) 606 f36), (a 37, aI (kG κ) 12 f37), (a 38, aI (kG κ) 12 f38), (a 41, aI (kG κ) 64 f41)] 30 [(0, .ref (a 0)), (1, .int (nI jt)), (2, .int (nI jk))] [.int (nI (nT (sT (xS X)) jt (plT (sT (xS X)) jt jk)))]
        refine w_goto (nx := 35) C dX9_value_30 rfl ?_
        have ho9 : o_value X (nI jt) (nI jk) = ((nI (nT (sT (xS X)) jt (plT (sT (xS X)) jt jk))), X) := by unfold o_value; rw [if_neg (fun z => z ⟨jt, hjt, rfl⟩), if_neg (fun z => z ⟨jk, hjk, rfl⟩), tn_nI (show jt < 2 ^ 31 by omega), tn_nI (show jk < 2 ^ 31 by omega), if_neg (Nat.ne_of_lt hpl)]
        refine w_iret (ty := .int) C E dX9_value_35 rfl rfl (Nat.le_refl _) (Nat.le_refl _) ?_
        rw [ho9]
        exact ⟨_, rfl, rfl, _, _, _, _, _, _, _, _, _, _, _, _, _, _, _, _, _, _, _, _, _, _, _, _, _, _, _, rfl, rfl, hO, hS, hU, hUn, hSl, hPd, h18⟩
      · show WW κ 0 0 [(a 0, mO a (upd v 0 (nI 0))), (a 1, aI (kG κ) 800 f1), (a 2, aI (kG κ) 800 f2), (a 3, aI (kG κ) 4800 f3), (a 5, aI (kG κ) 1600 f5), (a 6, aZ (kG κ) 2 f6), (a 7, aI (kG κ) 60 f7), (a 17, aI (kG κ) 12 f17), (a 21, aI (kG κ) 12 f21), (a 22, aI (kG κ) 12 f22), (a 23, aI (kG κ) 12 f23), (a 24, aI (kG κ) 12 f24), (a 25, aI (kG κ) 12 f25), (a 26, aI (kG κ) 12 f26), (a 27, aI (kG κ) 12 f27), (a 28, aI (kG κ) 12 f28), (a 29, aZ (kG κ) 4 f29), (a 31, aI (kG κ) 1300 f31), (a 32, aI (kG κ) 1300 f32), (a 33, aI (kG κ) 1300 f33), (a 34, aI (kG κ) 1300 f34), (a 35, aI (kG κ) 13000 f35), (a 36, aI (kG κ) 606 f36), (a 37, aI (kG κ) 12 f37), (a 38, aI (kG κ) 12 f38), (a 41, aI (kG κ) 64 f41)] 30 [(0, .ref (a 0)), (1, .int (nI jt)), (2, .int (nI jk))] [.int (-6)]
        refine w_goto (nx := 35) C dX9_value_30 rfl ?_
        have ho9 : o_value X (nI jt) (nI jk) = ((-6), X) := by unfold o_value; rw [if_neg (fun z => z ⟨jt, hjt, rfl⟩), if_neg (fun z => z ⟨jk, hjk, rfl⟩), tn_nI (show jt < 2 ^ 31 by omega), tn_nI (show jk < 2 ^ 31 by omega), if_pos hpl]
        refine w_iret (ty := .int) C E dX9_value_35 rfl rfl (Nat.le_refl _) (Nat.le_refl _) ?_
        rw [ho9]
        exact ⟨_, rfl, rfl, _, _, _, _, _, _, _, _, _, _, _, _, _, _, _, _, _, _, _, _, _, _, _, _, _, _, _, rfl, rfl, hO, hS, hU, hUn, hSl, hPd, h18⟩
  · have hno := h_2
    refine w_iconst (nx := 13) C (-1) dX9_value_12 rfl (by decide) ?_
    have ho9 : o_value X qt qk = ((-1), X) := by unfold o_value; rw [if_pos hno]
    refine w_iret (ty := .int) C E dX9_value_13 rfl rfl (Nat.le_refl _) (Nat.le_refl _) ?_
    rw [ho9]
    exact ⟨_, rfl, rfl, _, _, _, _, _, _, _, _, _, _, _, _, _, _, _, _, _, _, _, _, _, _, _, _, _, _, _, rfl, rfl, hO, hS, hU, hUn, hSl, hPd, h18⟩
set_option maxHeartbeats 4000000 in
set_option maxRecDepth 100000 in
theorem c_X9_journal (l : Launch) (G : GG) (h : Nat) (w : va_W) (X : SX) (qp : Int32) (qw : Int32) (hRX : RMX G h w X) : MT l G yX9_journal cX9_journal 3 (some .int) 2 0 0 [.ref h, .int qp, .int qw] ((w)) (fun v9 ws9 => ∃ (w2 : va_W), v9 = some (.int ((o_journal X qp qw).1)) ∧ ws9 = ((w2)) ∧ RMX G h w2 (o_journal X qp qw).2) := by
  refine RMX_elim hRX (fun a v f1 f2 f3 f5 f6 f7 f17 f21 f22 f23 f24 f25 f26 f27 f28 f29 f31 f32 f33 f34 f35 f36 f37 f38 f41 hw9 hh hO hS hU hUn hSl hPd h18 => ?_)
  subst hw9
  subst hh
  refine MT.of RX9 [(0, .ref (a 0)), (1, .int qp), (2, .int qw)] (by decide +kernel) rfl rfl (Nat.le_of_ble_eq_true rfl) (fun κ C E hl9 hG9 hnm9 => ?_)
  subst hl9; subst hG9
  have hn12 := hO.1.2.2.2.1.1
  have hj100 := hO.1.2.2.2.2
  have hz6 := hO.2.1.1
  have hp60 := hO.2.2.2.1
  have hd8 := hO.1.1
  have hl1 := hO.1.2.1
  have hzT := hO.1.2.2.1
  refine w_aload_n (nx := 1) C 0 dX9_journal_0 rfl rfl rfl ?_
  refine w_iconst (nx := 2) C (nI 0) dX9_journal_1 rfl (by decide) ?_
  refine w_putM (nx := 5) (ws2 := [(a 0, mO a (upd v 0 (nI 0))), (a 1, aI (kG κ) 800 f1), (a 2, aI (kG κ) 800 f2), (a 3, aI (kG κ) 4800 f3), (a 5, aI (kG κ) 1600 f5), (a 6, aZ (kG κ) 2 f6), (a 7, aI (kG κ) 60 f7), (a 17, aI (kG κ) 12 f17), (a 21, aI (kG κ) 12 f21), (a 22, aI (kG κ) 12 f22), (a 23, aI (kG κ) 12 f23), (a 24, aI (kG κ) 12 f24), (a 25, aI (kG κ) 12 f25), (a 26, aI (kG κ) 12 f26), (a 27, aI (kG κ) 12 f27), (a 28, aI (kG κ) 12 f28), (a 29, aZ (kG κ) 4 f29), (a 31, aI (kG κ) 1300 f31), (a 32, aI (kG κ) 1300 f32), (a 33, aI (kG κ) 1300 f33), (a 34, aI (kG κ) 1300 f34), (a 35, aI (kG κ) 13000 f35), (a 36, aI (kG κ) 606 f36), (a 37, aI (kG κ) 12 f37), (a 38, aI (kG κ) 12 f38), (a 41, aI (kG κ) 64 f41)]) C 0 0 dX9_journal_2 rfl wl_X9_90 rfl (by decide) rfl rfl rfl (ms_0 _ _ _) rfl ?_
  refine w_iload_n (nx := 6) C 1 dX9_journal_5 rfl rfl rfl ?_
  refine w_iconst (nx := 7) C (nI 0) dX9_journal_6 rfl (by decide) ?_
  refine w_aload_n (nx := 8) C 0 dX9_journal_7 rfl rfl rfl ?_
  refine w_getM (nx := 11) C (.ref (a 1)) 0 1 dX9_journal_8 rfl wl_X9_7 rfl (by decide) rfl (mg_1 _ _) ?_
  refine w_sipush (nx := 14) C (nI 199) dX9_journal_11 rfl (by decide) ?_
  refine w_iald (nx := 15) C (nI ((sJ (xS X)).1)) 1 199 dX9_journal_14 rfl rfl (by decide) rfl (by omega) hS.2.2.2.2.1 ?_
  refine w_iconst (nx := 16) C (nI 1) dX9_journal_15 rfl (by decide) ?_
  refine w_isub (nx := 17) C (nI (sJ (xS X)).1 - nI 1) dX9_journal_16 rfl rfl ?_
  refine w_callS (nx := 20) (wr := [(a 0, mO a (upd v 0 (nI 0))), (a 1, aI (kG κ) 800 f1), (a 2, aI (kG κ) 800 f2), (a 3, aI (kG κ) 4800 f3), (a 5, aI (kG κ) 1600 f5), (a 6, aZ (kG κ) 2 f6), (a 7, aI (kG κ) 60 f7), (a 17, aI (kG κ) 12 f17), (a 21, aI (kG κ) 12 f21), (a 22, aI (kG κ) 12 f22), (a 23, aI (kG κ) 12 f23), (a 24, aI (kG κ) 12 f24), (a 25, aI (kG κ) 12 f25), (a 26, aI (kG κ) 12 f26), (a 27, aI (kG κ) 12 f27), (a 28, aI (kG κ) 12 f28), (a 29, aZ (kG κ) 4 f29), (a 31, aI (kG κ) 1300 f31), (a 32, aI (kG κ) 1300 f32), (a 33, aI (kG κ) 1300 f33), (a 34, aI (kG κ) 1300 f34), (a 35, aI (kG κ) 13000 f35), (a 36, aI (kG κ) 606 f36), (a 37, aI (kG κ) 12 f37), (a 38, aI (kG κ) 12 f38), (a 41, aI (kG κ) 64 f41)]) (rest := []) C ms_X9_in (c_X9_in_w _ _ qp ((sJ (xS X)).1) (nI (sJ (xS X)).1 - nI 1) ((by omega)) (pk_sub_toInt (by omega) (by decide))) dX9_journal_17 rfl wl_X9_93 rfl (pm_sel [0, 1, 2, 3, 4, 5, 6, 7, 8, 9, 10, 11, 12, 13, 14, 15, 16, 17, 18, 19, 20, 21, 22, 23, 24, 25] 26 (by decide +kernel) rfl rfl) rfl rfl (Nat.le_of_ble_eq_true rfl) (Nat.le_of_ble_eq_true rfl) (Nat.le_of_ble_eq_true rfl) (Nat.zero_le _) (Nat.zero_le _) (fun v9 w9 R_1 => ?_)
  obtain ⟨rfl, rfl⟩ := R_1
  show WW κ 0 0 [(a 0, mO a (upd v 0 (nI 0))), (a 1, aI (kG κ) 800 f1), (a 2, aI (kG κ) 800 f2), (a 3, aI (kG κ) 4800 f3), (a 5, aI (kG κ) 1600 f5), (a 6, aZ (kG κ) 2 f6), (a 7, aI (kG κ) 60 f7), (a 17, aI (kG κ) 12 f17), (a 21, aI (kG κ) 12 f21), (a 22, aI (kG κ) 12 f22), (a 23, aI (kG κ) 12 f23), (a 24, aI (kG κ) 12 f24), (a 25, aI (kG κ) 12 f25), (a 26, aI (kG κ) 12 f26), (a 27, aI (kG κ) 12 f27), (a 28, aI (kG κ) 12 f28), (a 29, aZ (kG κ) 4 f29), (a 31, aI (kG κ) 1300 f31), (a 32, aI (kG κ) 1300 f32), (a 33, aI (kG κ) 1300 f33), (a 34, aI (kG κ) 1300 f34), (a 35, aI (kG κ) 13000 f35), (a 36, aI (kG κ) 606 f36), (a 37, aI (kG κ) 12 f37), (a 38, aI (kG κ) 12 f38), (a 41, aI (kG κ) 64 f41)] 20 [(0, .ref (a 0)), (1, .int qp), (2, .int qw)] [.int (bC (wi qp ((sJ (xS X)).1)))]
  refine b_if_ne (tg := 25) (nx := 23) C dX9_journal_20 rfl rfl (fun h_2 => ?_) (fun h_2 => ?_)
  · obtain ⟨jp, hjp, rfl⟩ := h_2
    refine w_iload_n (nx := 26) C 2 dX9_journal_25 rfl rfl rfl ?_
    refine w_iconst (nx := 27) C (nI 0) dX9_journal_26 rfl (by decide) ?_
    refine w_iconst (nx := 28) C (nI 5) dX9_journal_27 rfl (by decide) ?_
    refine w_callS (nx := 31) (wr := [(a 0, mO a (upd v 0 (nI 0))), (a 1, aI (kG κ) 800 f1), (a 2, aI (kG κ) 800 f2), (a 3, aI (kG κ) 4800 f3), (a 5, aI (kG κ) 1600 f5), (a 6, aZ (kG κ) 2 f6), (a 7, aI (kG κ) 60 f7), (a 17, aI (kG κ) 12 f17), (a 21, aI (kG κ) 12 f21), (a 22, aI (kG κ) 12 f22), (a 23, aI (kG κ) 12 f23), (a 24, aI (kG κ) 12 f24), (a 25, aI (kG κ) 12 f25), (a 26, aI (kG κ) 12 f26), (a 27, aI (kG κ) 12 f27), (a 28, aI (kG κ) 12 f28), (a 29, aZ (kG κ) 4 f29), (a 31, aI (kG κ) 1300 f31), (a 32, aI (kG κ) 1300 f32), (a 33, aI (kG κ) 1300 f33), (a 34, aI (kG κ) 1300 f34), (a 35, aI (kG κ) 13000 f35), (a 36, aI (kG κ) 606 f36), (a 37, aI (kG κ) 12 f37), (a 38, aI (kG κ) 12 f38), (a 41, aI (kG κ) 64 f41)]) (rest := []) C ms_X9_in (c_X9_in_w _ _ qw 6 (nI 5) (by decide) (by decide)) dX9_journal_28 rfl wl_X9_93 rfl (pm_sel [0, 1, 2, 3, 4, 5, 6, 7, 8, 9, 10, 11, 12, 13, 14, 15, 16, 17, 18, 19, 20, 21, 22, 23, 24, 25] 26 (by decide +kernel) rfl rfl) rfl rfl (Nat.le_of_ble_eq_true rfl) (Nat.le_of_ble_eq_true rfl) (Nat.le_of_ble_eq_true rfl) (Nat.zero_le _) (Nat.zero_le _) (fun v9 w9 R_3 => ?_)
    obtain ⟨rfl, rfl⟩ := R_3
    show WW κ 0 0 [(a 0, mO a (upd v 0 (nI 0))), (a 1, aI (kG κ) 800 f1), (a 2, aI (kG κ) 800 f2), (a 3, aI (kG κ) 4800 f3), (a 5, aI (kG κ) 1600 f5), (a 6, aZ (kG κ) 2 f6), (a 7, aI (kG κ) 60 f7), (a 17, aI (kG κ) 12 f17), (a 21, aI (kG κ) 12 f21), (a 22, aI (kG κ) 12 f22), (a 23, aI (kG κ) 12 f23), (a 24, aI (kG κ) 12 f24), (a 25, aI (kG κ) 12 f25), (a 26, aI (kG κ) 12 f26), (a 27, aI (kG κ) 12 f27), (a 28, aI (kG κ) 12 f28), (a 29, aZ (kG κ) 4 f29), (a 31, aI (kG κ) 1300 f31), (a 32, aI (kG κ) 1300 f32), (a 33, aI (kG κ) 1300 f33), (a 34, aI (kG κ) 1300 f34), (a 35, aI (kG κ) 13000 f35), (a 36, aI (kG κ) 606 f36), (a 37, aI (kG κ) 12 f37), (a 38, aI (kG κ) 12 f38), (a 41, aI (kG κ) 64 f41)] 31 [(0, .ref (a 0)), (1, .int (nI jp)), (2, .int qw)] [.int (bC (wi qw 6))]
    refine b_if_eq (tg := 52) (nx := 34) C dX9_journal_31 rfl rfl (fun h_4 => ?_) (fun h_4 => ?_)
    · have hno := h_4
      refine w_bipush (nx := 54) C (-2) dX9_journal_52 rfl (by decide) ?_
      have ho9 : o_journal X (nI jp) qw = ((-2), X) := by unfold o_journal; rw [if_neg (fun z => z ⟨jp, hjp, rfl⟩), if_pos hno]
      refine w_iret (ty := .int) C E dX9_journal_54 rfl rfl (Nat.le_refl _) (Nat.le_refl _) ?_
      rw [ho9]
      exact ⟨_, rfl, rfl, _, _, _, _, _, _, _, _, _, _, _, _, _, _, _, _, _, _, _, _, _, _, _, _, _, _, _, rfl, rfl, hO, hS, hU, hUn, hSl, hPd, h18⟩
    · obtain ⟨jw, hjw, rfl⟩ := h_4
      refine w_aload_n (nx := 35) C 0 dX9_journal_34 rfl rfl rfl ?_
      refine w_getM (nx := 38) C (.ref (a 1)) 0 1 dX9_journal_35 rfl wl_X9_7 rfl (by decide) rfl (mg_1 _ _) ?_
      refine w_sipush (nx := 41) C (nI 200) dX9_journal_38 rfl (by decide) ?_
      refine w_bipush (nx := 43) C (nI 6) dX9_journal_41 rfl (by decide) ?_
      refine w_iload_n (nx := 44) C 1 dX9_journal_43 rfl rfl rfl ?_
      refine w_imul (nx := 45) C (nI (6 * jp)) dX9_journal_44 rfl (pk_mul _ _) ?_
      refine w_iadd (nx := 46) C (nI (200 + 6 * jp)) dX9_journal_45 rfl (nI_add _ _) ?_
      refine w_iload_n (nx := 47) C 2 dX9_journal_46 rfl rfl rfl ?_
      refine w_iadd (nx := 48) C (nI (200 + 6 * jp + jw)) dX9_journal_47 rfl (nI_add _ _) ?_
      refine w_iald (nx := 49) C ((sJ (xS X)).2 jp jw) 1 (200 + 6 * jp + jw) dX9_journal_48 rfl rfl (by decide) rfl (by omega) (hS.2.2.2.2.2 jp hjp jw hjw) ?_
      refine w_goto (nx := 54) C dX9_journal_49 rfl ?_
      have ho9 : o_journal X (nI jp) (nI jw) = (((sJ (xS X)).2 jp jw), X) := by unfold o_journal; rw [if_neg (fun z => z ⟨jp, hjp, rfl⟩), if_neg (fun z => z ⟨jw, hjw, rfl⟩), tn_nI (show jp < 2 ^ 31 by omega), tn_nI (show jw < 2 ^ 31 by omega)]
      refine w_iret (ty := .int) C E dX9_journal_54 rfl rfl (Nat.le_refl _) (Nat.le_refl _) ?_
      rw [ho9]
      exact ⟨_, rfl, rfl, _, _, _, _, _, _, _, _, _, _, _, _, _, _, _, _, _, _, _, _, _, _, _, _, _, _, _, rfl, rfl, hO, hS, hU, hUn, hSl, hPd, h18⟩
  · have hno := h_2
    refine w_iconst (nx := 24) C (-1) dX9_journal_23 rfl (by decide) ?_
    have ho9 : o_journal X qp qw = ((-1), X) := by unfold o_journal; rw [if_pos hno]
    refine w_iret (ty := .int) C E dX9_journal_24 rfl rfl (Nat.le_refl _) (Nat.le_refl _) ?_
    rw [ho9]
    exact ⟨_, rfl, rfl, _, _, _, _, _, _, _, _, _, _, _, _, _, _, _, _, _, _, _, _, _, _, _, _, _, _, _, rfl, rfl, hO, hS, hU, hUn, hSl, hPd, h18⟩
set_option maxHeartbeats 4000000 in
set_option maxRecDepth 100000 in
theorem c_X9_undo (l : Launch) (G : GG) (h : Nat) (w : va_W) (X : SX) (hRX : RMX G h w X) : MT l G yX9_undo cX9_undo 2 (some .int) 1 0 0 [.ref h] ((w)) (fun v9 ws9 => ∃ (w2 : va_W), v9 = some (.int ((o_undo X).1)) ∧ ws9 = ((w2)) ∧ RMX G h w2 (o_undo X).2) := by
  refine RMX_elim hRX (fun a v f1 f2 f3 f5 f6 f7 f17 f21 f22 f23 f24 f25 f26 f27 f28 f29 f31 f32 f33 f34 f35 f36 f37 f38 f41 hw9 hh hO hS hU hUn hSl hPd h18 => ?_)
  subst hw9
  subst hh
  refine MT.of RX9 [(0, .ref (a 0))] (by decide +kernel) rfl rfl (Nat.le_of_ble_eq_true rfl) (fun κ C E hl9 hG9 hnm9 => ?_)
  subst hl9; subst hG9
  have hn12 := hO.1.2.2.2.1.1
  have hj100 := hO.1.2.2.2.2
  have hz6 := hO.2.1.1
  have hp60 := hO.2.2.2.1
  have hd8 := hO.1.1
  have hl1 := hO.1.2.1
  have hzT := hO.1.2.2.1
  refine w_aload_n (nx := 1) C 0 dX9_undo_0 rfl rfl rfl ?_
  refine w_iconst (nx := 2) C (nI 0) dX9_undo_1 rfl (by decide) ?_
  refine w_putM (nx := 5) (ws2 := [(a 0, mO a (upd v 0 (nI 0))), (a 1, aI (kG κ) 800 f1), (a 2, aI (kG κ) 800 f2), (a 3, aI (kG κ) 4800 f3), (a 5, aI (kG κ) 1600 f5), (a 6, aZ (kG κ) 2 f6), (a 7, aI (kG κ) 60 f7), (a 17, aI (kG κ) 12 f17), (a 21, aI (kG κ) 12 f21), (a 22, aI (kG κ) 12 f22), (a 23, aI (kG κ) 12 f23), (a 24, aI (kG κ) 12 f24), (a 25, aI (kG κ) 12 f25), (a 26, aI (kG κ) 12 f26), (a 27, aI (kG κ) 12 f27), (a 28, aI (kG κ) 12 f28), (a 29, aZ (kG κ) 4 f29), (a 31, aI (kG κ) 1300 f31), (a 32, aI (kG κ) 1300 f32), (a 33, aI (kG κ) 1300 f33), (a 34, aI (kG κ) 1300 f34), (a 35, aI (kG κ) 13000 f35), (a 36, aI (kG κ) 606 f36), (a 37, aI (kG κ) 12 f37), (a 38, aI (kG κ) 12 f38), (a 41, aI (kG κ) 64 f41)]) C 0 0 dX9_undo_2 rfl wl_X9_90 rfl (by decide) rfl rfl rfl (ms_0 _ _ _) rfl ?_
  refine w_aload_n (nx := 6) C 0 dX9_undo_5 rfl rfl rfl ?_
  refine w_getM (nx := 9) C (.int (v 4)) 0 4 dX9_undo_6 rfl wl_X9_97 rfl (by decide) rfl (mg_4 _ _) ?_
  refine w_top (nI ((xH X).1)) hU ?_
  refine n_if_ne (tg := 15) (nx := 12) C dX9_undo_9 rfl rfl (by omega) (fun h_1 => ?_) (fun h_1 => ?_)
  · have hz0 : ¬ (xH X).1 = 0 := by omega
    refine w_aload_n (nx := 16) C 0 dX9_undo_15 rfl rfl rfl ?_
    refine w_dup (nx := 17) C dX9_undo_16 rfl rfl ?_
    refine w_getM (nx := 20) C (.int (v 4)) 0 4 dX9_undo_17 rfl wl_X9_97 rfl (by decide) rfl (mg_4 _ _) ?_
    refine w_top (nI ((xH X).1)) hU ?_
    refine w_iconst (nx := 21) C (nI 1) dX9_undo_20 rfl (by decide) ?_
    refine w_isub (nx := 22) C (nI ((xH X).1 - 1)) dX9_undo_21 rfl (pk_sub (by omega)) ?_
    refine w_putM (nx := 25) (ws2 := [(a 0, mO a (upd (upd v 0 (nI 0)) 4 (nI ((xH X).1 - 1)))), (a 1, aI (kG κ) 800 f1), (a 2, aI (kG κ) 800 f2), (a 3, aI (kG κ) 4800 f3), (a 5, aI (kG κ) 1600 f5), (a 6, aZ (kG κ) 2 f6), (a 7, aI (kG κ) 60 f7), (a 17, aI (kG κ) 12 f17), (a 21, aI (kG κ) 12 f21), (a 22, aI (kG κ) 12 f22), (a 23, aI (kG κ) 12 f23), (a 24, aI (kG κ) 12 f24), (a 25, aI (kG κ) 12 f25), (a 26, aI (kG κ) 12 f26), (a 27, aI (kG κ) 12 f27), (a 28, aI (kG κ) 12 f28), (a 29, aZ (kG κ) 4 f29), (a 31, aI (kG κ) 1300 f31), (a 32, aI (kG κ) 1300 f32), (a 33, aI (kG κ) 1300 f33), (a 34, aI (kG κ) 1300 f34), (a 35, aI (kG κ) 13000 f35), (a 36, aI (kG κ) 606 f36), (a 37, aI (kG κ) 12 f37), (a 38, aI (kG κ) 12 f38), (a 41, aI (kG κ) 64 f41)]) C 0 4 dX9_undo_22 rfl wl_X9_97 rfl (by decide) rfl rfl rfl (ms_4 _ _ _) rfl ?_
    refine w_iconst (nx := 26) C (nI 0) dX9_undo_25 rfl (by decide) ?_
    refine w_istore_n (nx := 27) (lo2 := [(1, .int (nI 0)), (0, .ref (a 0))]) C dX9_undo_26 rfl rfl (by decide) rfl ?_
    have LP_2 : ∀ (N9_27 : Nat) (g1 : Nat → Int32) (k : Nat), (k ≤ 800) → (∀ i, i < k → g1 i = f3 (800 * ((xH X).1 - 1) + i)) → (800 - k) < N9_27 → WW κ 0 0 [(a 0, mO a (upd (upd v 0 (nI 0)) 4 (nI ((xH X).1 - 1)))), (a 1, aI (kG κ) 800 g1), (a 2, aI (kG κ) 800 f2), (a 3, aI (kG κ) 4800 f3), (a 5, aI (kG κ) 1600 f5), (a 6, aZ (kG κ) 2 f6), (a 7, aI (kG κ) 60 f7), (a 17, aI (kG κ) 12 f17), (a 21, aI (kG κ) 12 f21), (a 22, aI (kG κ) 12 f22), (a 23, aI (kG κ) 12 f23), (a 24, aI (kG κ) 12 f24), (a 25, aI (kG κ) 12 f25), (a 26, aI (kG κ) 12 f26), (a 27, aI (kG κ) 12 f27), (a 28, aI (kG κ) 12 f28), (a 29, aZ (kG κ) 4 f29), (a 31, aI (kG κ) 1300 f31), (a 32, aI (kG κ) 1300 f32), (a 33, aI (kG κ) 1300 f33), (a 34, aI (kG κ) 1300 f34), (a 35, aI (kG κ) 13000 f35), (a 36, aI (kG κ) 606 f36), (a 37, aI (kG κ) 12 f37), (a 38, aI (kG κ) 12 f38), (a 41, aI (kG κ) 64 f41)] 27 [(0, .ref (a 0)), (1, .int (nI k))] [] := by
      intro N9_27
      induction N9_27 with
      | zero => intro g1 k hk hg hm9_27; exact absurd hm9_27 (Nat.not_lt_zero _)
      | succ N9_27 ih9_27 =>
        intro g1 k hk hg hm9_27
        refine w_iload_n (nx := 28) C 1 dX9_undo_27 rfl rfl rfl ?_
        refine w_sipush (nx := 31) C (nI 800) dX9_undo_28 rfl (by decide) ?_
        refine n_icmp_ge (tg := 61) (nx := 34) C dX9_undo_31 rfl rfl (by omega) (by omega) (fun h_3 => ?_) (fun h_3 => ?_)
        · refine w_aload_n (nx := 62) C 0 dX9_undo_61 rfl rfl rfl ?_
          refine w_getM (nx := 65) C (.int (nI ((xH X).1 - 1))) 0 4 dX9_undo_62 rfl wl_X9_97 rfl (by decide) rfl (mg_4 _ _) ?_
          have ho9 : o_undo X = ((nI ((xH X).1 - 1)), ((xH X).2 ((xH X).1 - 1), ((xH X).1 - 1, (xH X).2), X.2.2)) := by unfold o_undo; rw [if_neg hz0]
          have hw9 : wfO ((xH X).2 ((xH X).1 - 1), ((xH X).1 - 1, (xH X).2), X.2.2) := by
            have z9 : wfO (o_undo X).2 := w_o_undo hO
            rw [ho9] at z9
            exact z9
          refine w_iret (ty := .int) C E dX9_undo_65 rfl rfl (Nat.le_refl _) (Nat.le_refl _) ?_
          rw [ho9]
          exact ⟨_, rfl, rfl, _, _, _, _, _, _, _, _, _, _, _, _, _, _, _, _, _, _, _, _, _, _, _, _, _, _, _, rfl, rfl, hw9, (rMS_eq (hUn _ (by omega)) (hO.2.1.2 _ (by omega)) (fun i hi => hg i (by omega))), rfl, (fun i hi => hUn i (by have h9 : i < (xH X).1 - 1 := hi; omega)), hSl, hPd, h18⟩
        · refine w_aload_n (nx := 35) C 0 dX9_undo_34 rfl rfl rfl ?_
          refine w_getM (nx := 38) C (.ref (a 1)) 0 1 dX9_undo_35 rfl wl_X9_7 rfl (by decide) rfl (mg_1 _ _) ?_
          refine w_iload_n (nx := 39) C 1 dX9_undo_38 rfl rfl rfl ?_
          refine w_aload_n (nx := 40) C 0 dX9_undo_39 rfl rfl rfl ?_
          refine w_getM (nx := 43) C (.ref (a 3)) 0 3 dX9_undo_40 rfl wl_X9_16 rfl (by decide) rfl (mg_3 _ _) ?_
          refine w_sipush (nx := 46) C (nI 800) dX9_undo_43 rfl (by decide) ?_
          refine w_aload_n (nx := 47) C 0 dX9_undo_46 rfl rfl rfl ?_
          refine w_getM (nx := 50) C (.int (nI ((xH X).1 - 1))) 0 4 dX9_undo_47 rfl wl_X9_97 rfl (by decide) rfl (mg_4 _ _) ?_
          refine w_imul (nx := 51) C (nI (800 * ((xH X).1 - 1))) dX9_undo_50 rfl (pk_mul _ _) ?_
          refine w_iload_n (nx := 52) C 1 dX9_undo_51 rfl rfl rfl ?_
          refine w_iadd (nx := 53) C (nI (800 * ((xH X).1 - 1) + k)) dX9_undo_52 rfl (nI_add _ _) ?_
          refine w_iald (nx := 54) C (f3 (800 * ((xH X).1 - 1) + k)) 3 (800 * ((xH X).1 - 1) + k) dX9_undo_53 rfl rfl (by decide) rfl (by omega) rfl ?_
          refine w_iast (nx := 55) (ws2 := [(a 0, mO a (upd (upd v 0 (nI 0)) 4 (nI ((xH X).1 - 1)))), (a 1, aI (kG κ) 800 (upd g1 k (f3 (800 * ((xH X).1 - 1) + k)))), (a 2, aI (kG κ) 800 f2), (a 3, aI (kG κ) 4800 f3), (a 5, aI (kG κ) 1600 f5), (a 6, aZ (kG κ) 2 f6), (a 7, aI (kG κ) 60 f7), (a 17, aI (kG κ) 12 f17), (a 21, aI (kG κ) 12 f21), (a 22, aI (kG κ) 12 f22), (a 23, aI (kG κ) 12 f23), (a 24, aI (kG κ) 12 f24), (a 25, aI (kG κ) 12 f25), (a 26, aI (kG κ) 12 f26), (a 27, aI (kG κ) 12 f27), (a 28, aI (kG κ) 12 f28), (a 29, aZ (kG κ) 4 f29), (a 31, aI (kG κ) 1300 f31), (a 32, aI (kG κ) 1300 f32), (a 33, aI (kG κ) 1300 f33), (a 34, aI (kG κ) 1300 f34), (a 35, aI (kG κ) 13000 f35), (a 36, aI (kG κ) 606 f36), (a 37, aI (kG κ) 12 f37), (a 38, aI (kG κ) 12 f38), (a 41, aI (kG κ) 64 f41)]) C 1 k dX9_undo_54 rfl rfl (by decide) rfl (by omega) rfl ?_
          refine w_iinc (nx := 58) (lo2 := [(1, .int (nI (k + 1))), (0, .ref (a 0))]) C (nI (k + 1)) 1 dX9_undo_55 rfl rfl (nI_add _ _) (by decide) rfl ?_
          refine w_goto (nx := 27) C dX9_undo_58 rfl ?_
          refine ww_lo [1, 0] (lo' := [(0, .ref (a 0)), (1, .int (nI (k + 1)))]) rfl ?_
          exact ih9_27 (upd g1 k (f3 (800 * ((xH X).1 - 1) + k))) (k + 1) (by first | assumption | omega) (fun i hi => (Nat.lt_or_ge i k).elim (fun z => (upd_n (by omega)).trans (hg i z)) (fun z => by have e9 : i = k := (by omega); subst e9; exact upd_e rfl)) (by omega)
    refine ww_lo [1, 0] (lo' := [(0, .ref (a 0)), (1, .int (nI 0))]) rfl ?_
    exact LP_2 _ f1 0 (Nat.zero_le _) (fun i hi => absurd hi (Nat.not_lt_zero _)) (Nat.lt_succ_self _)
  · have hz0 : (xH X).1 = 0 := by omega
    refine w_bipush (nx := 14) C (-5) dX9_undo_12 rfl (by decide) ?_
    have ho9 : o_undo X = ((-5), X) := by unfold o_undo; rw [if_pos hz0]
    refine w_iret (ty := .int) C E dX9_undo_14 rfl rfl (Nat.le_refl _) (Nat.le_refl _) ?_
    rw [ho9]
    exact ⟨_, rfl, rfl, _, _, _, _, _, _, _, _, _, _, _, _, _, _, _, _, _, _, _, _, _, _, _, _, _, _, _, rfl, rfl, hO, hS, hU, hUn, hSl, hPd, h18⟩
set_option maxHeartbeats 4000000 in
set_option maxRecDepth 100000 in
theorem c_X9_save (l : Launch) (G : GG) (h : Nat) (w : va_W) (X : SX) (q : Int32) (hRX : RMX G h w X) : MT l G yX9_save cX9_save 3 (some .int) 3 0 0 [.ref h, .int q] ((w)) (fun v9 ws9 => ∃ (w2 : va_W), v9 = some (.int ((o_save X q).1)) ∧ ws9 = ((w2)) ∧ RMX G h w2 (o_save X q).2) := by
  refine RMX_elim hRX (fun a v f1 f2 f3 f5 f6 f7 f17 f21 f22 f23 f24 f25 f26 f27 f28 f29 f31 f32 f33 f34 f35 f36 f37 f38 f41 hw9 hh hO hS hU hUn hSl hPd h18 => ?_)
  subst hw9
  subst hh
  refine MT.of RX9 [(0, .ref (a 0)), (1, .int q)] (by decide +kernel) rfl rfl (Nat.le_of_ble_eq_true rfl) (fun κ C E hl9 hG9 hnm9 => ?_)
  subst hl9; subst hG9
  have hn12 := hO.1.2.2.2.1.1
  have hj100 := hO.1.2.2.2.2
  have hz6 := hO.2.1.1
  have hp60 := hO.2.2.2.1
  have hd8 := hO.1.1
  have hl1 := hO.1.2.1
  have hzT := hO.1.2.2.1
  refine w_aload_n (nx := 1) C 0 dX9_save_0 rfl rfl rfl ?_
  refine w_iconst (nx := 2) C (nI 0) dX9_save_1 rfl (by decide) ?_
  refine w_putM (nx := 5) (ws2 := [(a 0, mO a (upd v 0 (nI 0))), (a 1, aI (kG κ) 800 f1), (a 2, aI (kG κ) 800 f2), (a 3, aI (kG κ) 4800 f3), (a 5, aI (kG κ) 1600 f5), (a 6, aZ (kG κ) 2 f6), (a 7, aI (kG κ) 60 f7), (a 17, aI (kG κ) 12 f17), (a 21, aI (kG κ) 12 f21), (a 22, aI (kG κ) 12 f22), (a 23, aI (kG κ) 12 f23), (a 24, aI (kG κ) 12 f24), (a 25, aI (kG κ) 12 f25), (a 26, aI (kG κ) 12 f26), (a 27, aI (kG κ) 12 f27), (a 28, aI (kG κ) 12 f28), (a 29, aZ (kG κ) 4 f29), (a 31, aI (kG κ) 1300 f31), (a 32, aI (kG κ) 1300 f32), (a 33, aI (kG κ) 1300 f33), (a 34, aI (kG κ) 1300 f34), (a 35, aI (kG κ) 13000 f35), (a 36, aI (kG κ) 606 f36), (a 37, aI (kG κ) 12 f37), (a 38, aI (kG κ) 12 f38), (a 41, aI (kG κ) 64 f41)]) C 0 0 dX9_save_2 rfl wl_X9_90 rfl (by decide) rfl rfl rfl (ms_0 _ _ _) rfl ?_
  refine w_iload_n (nx := 6) C 1 dX9_save_5 rfl rfl rfl ?_
  refine w_iconst (nx := 7) C (nI 0) dX9_save_6 rfl (by decide) ?_
  refine w_iconst (nx := 8) C (nI 1) dX9_save_7 rfl (by decide) ?_
  refine w_callS (nx := 11) (wr := [(a 0, mO a (upd v 0 (nI 0))), (a 1, aI (kG κ) 800 f1), (a 2, aI (kG κ) 800 f2), (a 3, aI (kG κ) 4800 f3), (a 5, aI (kG κ) 1600 f5), (a 6, aZ (kG κ) 2 f6), (a 7, aI (kG κ) 60 f7), (a 17, aI (kG κ) 12 f17), (a 21, aI (kG κ) 12 f21), (a 22, aI (kG κ) 12 f22), (a 23, aI (kG κ) 12 f23), (a 24, aI (kG κ) 12 f24), (a 25, aI (kG κ) 12 f25), (a 26, aI (kG κ) 12 f26), (a 27, aI (kG κ) 12 f27), (a 28, aI (kG κ) 12 f28), (a 29, aZ (kG κ) 4 f29), (a 31, aI (kG κ) 1300 f31), (a 32, aI (kG κ) 1300 f32), (a 33, aI (kG κ) 1300 f33), (a 34, aI (kG κ) 1300 f34), (a 35, aI (kG κ) 13000 f35), (a 36, aI (kG κ) 606 f36), (a 37, aI (kG κ) 12 f37), (a 38, aI (kG κ) 12 f38), (a 41, aI (kG κ) 64 f41)]) (rest := []) C ms_X9_in (c_X9_in_w _ _ q 2 (nI 1) (by decide) (by decide)) dX9_save_8 rfl wl_X9_93 rfl (pm_sel [0, 1, 2, 3, 4, 5, 6, 7, 8, 9, 10, 11, 12, 13, 14, 15, 16, 17, 18, 19, 20, 21, 22, 23, 24, 25] 26 (by decide +kernel) rfl rfl) rfl rfl (Nat.le_of_ble_eq_true rfl) (Nat.le_of_ble_eq_true rfl) (Nat.le_of_ble_eq_true rfl) (Nat.zero_le _) (Nat.zero_le _) (fun v9 w9 R_1 => ?_)
  obtain ⟨rfl, rfl⟩ := R_1
  show WW κ 0 0 [(a 0, mO a (upd v 0 (nI 0))), (a 1, aI (kG κ) 800 f1), (a 2, aI (kG κ) 800 f2), (a 3, aI (kG κ) 4800 f3), (a 5, aI (kG κ) 1600 f5), (a 6, aZ (kG κ) 2 f6), (a 7, aI (kG κ) 60 f7), (a 17, aI (kG κ) 12 f17), (a 21, aI (kG κ) 12 f21), (a 22, aI (kG κ) 12 f22), (a 23, aI (kG κ) 12 f23), (a 24, aI (kG κ) 12 f24), (a 25, aI (kG κ) 12 f25), (a 26, aI (kG κ) 12 f26), (a 27, aI (kG κ) 12 f27), (a 28, aI (kG κ) 12 f28), (a 29, aZ (kG κ) 4 f29), (a 31, aI (kG κ) 1300 f31), (a 32, aI (kG κ) 1300 f32), (a 33, aI (kG κ) 1300 f33), (a 34, aI (kG κ) 1300 f34), (a 35, aI (kG κ) 13000 f35), (a 36, aI (kG κ) 606 f36), (a 37, aI (kG κ) 12 f37), (a 38, aI (kG κ) 12 f38), (a 41, aI (kG κ) 64 f41)] 11 [(0, .ref (a 0)), (1, .int q)] [.int (bC (wi q 2))]
  refine b_if_ne (tg := 17) (nx := 14) C dX9_save_11 rfl rfl (fun h_2 => ?_) (fun h_2 => ?_)
  · obtain ⟨jq, hjq, rfl⟩ := h_2
    refine w_iconst (nx := 18) C (nI 0) dX9_save_17 rfl (by decide) ?_
    refine w_istore_n (nx := 19) (lo2 := [(2, .int (nI 0)), (0, .ref (a 0)), (1, .int (nI jq))]) C dX9_save_18 rfl rfl (by decide) rfl ?_
    have LP_3 : ∀ (N9_19 : Nat) (g5 : Nat → Int32) (k : Nat), (k ≤ 800) → (∀ i, i < k → g5 (800 * jq + i) = f1 i) → (∀ j, (j < 800 * jq ∨ 800 * jq + 800 ≤ j) → g5 j = f5 j) → (800 - k) < N9_19 → WW κ 0 0 [(a 0, mO a (upd v 0 (nI 0))), (a 1, aI (kG κ) 800 f1), (a 2, aI (kG κ) 800 f2), (a 3, aI (kG κ) 4800 f3), (a 5, aI (kG κ) 1600 g5), (a 6, aZ (kG κ) 2 f6), (a 7, aI (kG κ) 60 f7), (a 17, aI (kG κ) 12 f17), (a 21, aI (kG κ) 12 f21), (a 22, aI (kG κ) 12 f22), (a 23, aI (kG κ) 12 f23), (a 24, aI (kG κ) 12 f24), (a 25, aI (kG κ) 12 f25), (a 26, aI (kG κ) 12 f26), (a 27, aI (kG κ) 12 f27), (a 28, aI (kG κ) 12 f28), (a 29, aZ (kG κ) 4 f29), (a 31, aI (kG κ) 1300 f31), (a 32, aI (kG κ) 1300 f32), (a 33, aI (kG κ) 1300 f33), (a 34, aI (kG κ) 1300 f34), (a 35, aI (kG κ) 13000 f35), (a 36, aI (kG κ) 606 f36), (a 37, aI (kG κ) 12 f37), (a 38, aI (kG κ) 12 f38), (a 41, aI (kG κ) 64 f41)] 19 [(0, .ref (a 0)), (1, .int (nI jq)), (2, .int (nI k))] [] := by
      intro N9_19
      induction N9_19 with
      | zero => intro g5 k hk hg1 hg2 hm9_19; exact absurd hm9_19 (Nat.not_lt_zero _)
      | succ N9_19 ih9_19 =>
        intro g5 k hk hg1 hg2 hm9_19
        refine w_iload_n (nx := 20) C 2 dX9_save_19 rfl rfl rfl ?_
        refine w_sipush (nx := 23) C (nI 800) dX9_save_20 rfl (by decide) ?_
        refine n_icmp_ge (tg := 50) (nx := 26) C dX9_save_23 rfl rfl (by omega) (by omega) (fun h_4 => ?_) (fun h_4 => ?_)
        · refine w_aload_n (nx := 51) C 0 dX9_save_50 rfl rfl rfl ?_
          refine w_getM (nx := 54) C (.ref (a 6)) 0 6 dX9_save_51 rfl wl_X9_22 rfl (by decide) rfl (mg_6 _ _) ?_
          refine w_iload_n (nx := 55) C 1 dX9_save_54 rfl rfl rfl ?_
          refine w_iconst (nx := 56) C (nI 1) dX9_save_55 rfl (by decide) ?_
          refine w_zast (nx := 57) (ws2 := [(a 0, mO a (upd v 0 (nI 0))), (a 1, aI (kG κ) 800 f1), (a 2, aI (kG κ) 800 f2), (a 3, aI (kG κ) 4800 f3), (a 5, aI (kG κ) 1600 g5), (a 6, aZ (kG κ) 2 (upd f6 jq (nI 1))), (a 7, aI (kG κ) 60 f7), (a 17, aI (kG κ) 12 f17), (a 21, aI (kG κ) 12 f21), (a 22, aI (kG κ) 12 f22), (a 23, aI (kG κ) 12 f23), (a 24, aI (kG κ) 12 f24), (a 25, aI (kG κ) 12 f25), (a 26, aI (kG κ) 12 f26), (a 27, aI (kG κ) 12 f27), (a 28, aI (kG κ) 12 f28), (a 29, aZ (kG κ) 4 f29), (a 31, aI (kG κ) 1300 f31), (a 32, aI (kG κ) 1300 f32), (a 33, aI (kG κ) 1300 f33), (a 34, aI (kG κ) 1300 f34), (a 35, aI (kG κ) 13000 f35), (a 36, aI (kG κ) 606 f36), (a 37, aI (kG κ) 12 f37), (a 38, aI (kG κ) 12 f38), (a 41, aI (kG κ) 64 f41)]) C (nI 1) 5 jq dX9_save_56 rfl rfl (by decide) rfl (by omega) rfl rfl ?_
          refine w_aload_n (nx := 58) C 0 dX9_save_57 rfl rfl rfl ?_
          refine w_callV (nx := 61) (wr := [(a 2, aI (kG κ) 800 f2), (a 3, aI (kG κ) 4800 f3), (a 5, aI (kG κ) 1600 g5), (a 6, aZ (kG κ) 2 (upd f6 jq (nI 1))), (a 7, aI (kG κ) 60 f7), (a 17, aI (kG κ) 12 f17), (a 21, aI (kG κ) 12 f21), (a 22, aI (kG κ) 12 f22), (a 23, aI (kG κ) 12 f23), (a 24, aI (kG κ) 12 f24), (a 25, aI (kG κ) 12 f25), (a 26, aI (kG κ) 12 f26), (a 27, aI (kG κ) 12 f27), (a 28, aI (kG κ) 12 f28), (a 29, aZ (kG κ) 4 f29), (a 31, aI (kG κ) 1300 f31), (a 32, aI (kG κ) 1300 f32), (a 33, aI (kG κ) 1300 f33), (a 34, aI (kG κ) 1300 f34), (a 35, aI (kG κ) 13000 f35), (a 36, aI (kG κ) 606 f36), (a 37, aI (kG κ) 12 f37), (a 38, aI (kG κ) 12 f38), (a 41, aI (kG κ) 64 f41)]) (rest := []) C mi_X9_allRows (c_X9_allRows _ _ a (upd v 0 (nI 0)) f1 (sT (xS X)) (hS.2.2.1) (hO.1.2.2.1)) 0 dX9_save_58 rfl wl_X9_261 rfl rfl rfl (pm_sel [0, 1, 2, 3, 4, 5, 6, 7, 8, 9, 10, 11, 12, 13, 14, 15, 16, 17, 18, 19, 20, 21, 22, 23, 24, 25] 26 (by decide +kernel) rfl rfl) rfl rfl (Nat.le_of_ble_eq_true rfl) (Nat.le_of_ble_eq_true rfl) (Nat.le_of_ble_eq_true rfl) (Nat.zero_le _) (Nat.zero_le _) (fun v9 w9 R_5 => ?_)
          obtain ⟨rfl, rfl⟩ := R_5
          show WW κ 0 0 [(a 0, mO a (upd v 0 (nI 0))), (a 1, aI (kG κ) 800 f1), (a 2, aI (kG κ) 800 f2), (a 3, aI (kG κ) 4800 f3), (a 5, aI (kG κ) 1600 g5), (a 6, aZ (kG κ) 2 (upd f6 jq (nI 1))), (a 7, aI (kG κ) 60 f7), (a 17, aI (kG κ) 12 f17), (a 21, aI (kG κ) 12 f21), (a 22, aI (kG κ) 12 f22), (a 23, aI (kG κ) 12 f23), (a 24, aI (kG κ) 12 f24), (a 25, aI (kG κ) 12 f25), (a 26, aI (kG κ) 12 f26), (a 27, aI (kG κ) 12 f27), (a 28, aI (kG κ) 12 f28), (a 29, aZ (kG κ) 4 f29), (a 31, aI (kG κ) 1300 f31), (a 32, aI (kG κ) 1300 f32), (a 33, aI (kG κ) 1300 f33), (a 34, aI (kG κ) 1300 f34), (a 35, aI (kG κ) 13000 f35), (a 36, aI (kG κ) 606 f36), (a 37, aI (kG κ) 12 f37), (a 38, aI (kG κ) 12 f38), (a 41, aI (kG κ) 64 f41)] 61 [(0, .ref (a 0)), (1, .int (nI jq)), (2, .int (nI k))] [.int (nI (allT (sT (xS X))))]
          have ho9 : o_save X (nI jq) = ((nI (allT (sT (xS X)))), (xS X, xH X, (fun i => if i = jq then some (xS X) else xL X i), xP X)) := by unfold o_save; rw [if_neg (fun z => z ⟨jq, hjq, rfl⟩), tn_nI (show jq < 2 ^ 31 by omega)]
          have hw9 : wfO (xS X, xH X, (fun i => if i = jq then some (xS X) else xL X i), xP X) := by
            have z9 : wfO (o_save X (nI jq)).2 := w_o_save hO
            rw [ho9] at z9
            exact z9
          refine w_iret (ty := .int) C E dX9_save_61 rfl rfl (Nat.le_refl _) (Nat.le_refl _) ?_
          rw [ho9]
          exact ⟨_, rfl, rfl, _, _, _, _, _, _, _, _, _, _, _, _, _, _, _, _, _, _, _, _, _, _, _, _, _, _, _, rfl, rfl, hw9, hS, hU, hUn, (fun i hi => by
                show _ = bC (∃ σ, (if i = jq then some (xS X) else xL X i) = some σ) ∧ ∀ σ, (if i = jq then some (xS X) else xL X i) = some σ → _
                by_cases e : i = jq
                · rw [if_pos e, e]
                  exact ⟨(upd_e rfl).trans (bC_t ⟨_, rfl⟩).symm, fun σ z => by cases z; exact rMS_eq hS hO.1 (fun q hq => hg1 q (by omega))⟩
                · rw [if_neg e, upd_n e]
                  exact ⟨(hSl i hi).1, fun σ z => rMS_eq ((hSl i hi).2 σ z) (hO.2.2.1 i hi σ z) (fun q hq => hg2 _ (by omega))⟩), hPd, h18⟩
        · refine w_aload_n (nx := 27) C 0 dX9_save_26 rfl rfl rfl ?_
          refine w_getM (nx := 30) C (.ref (a 5)) 0 5 dX9_save_27 rfl wl_X9_19 rfl (by decide) rfl (mg_5 _ _) ?_
          refine w_sipush (nx := 33) C (nI 800) dX9_save_30 rfl (by decide) ?_
          refine w_iload_n (nx := 34) C 1 dX9_save_33 rfl rfl rfl ?_
          refine w_imul (nx := 35) C (nI (800 * jq)) dX9_save_34 rfl (pk_mul _ _) ?_
          refine w_iload_n (nx := 36) C 2 dX9_save_35 rfl rfl rfl ?_
          refine w_iadd (nx := 37) C (nI (800 * jq + k)) dX9_save_36 rfl (nI_add _ _) ?_
          refine w_aload_n (nx := 38) C 0 dX9_save_37 rfl rfl rfl ?_
          refine w_getM (nx := 41) C (.ref (a 1)) 0 1 dX9_save_38 rfl wl_X9_7 rfl (by decide) rfl (mg_1 _ _) ?_
          refine w_iload_n (nx := 42) C 2 dX9_save_41 rfl rfl rfl ?_
          refine w_iald (nx := 43) C (f1 k) 1 k dX9_save_42 rfl rfl (by decide) rfl (by omega) rfl ?_
          refine w_iast (nx := 44) (ws2 := [(a 0, mO a (upd v 0 (nI 0))), (a 1, aI (kG κ) 800 f1), (a 2, aI (kG κ) 800 f2), (a 3, aI (kG κ) 4800 f3), (a 5, aI (kG κ) 1600 (upd g5 (800 * jq + k) (f1 k))), (a 6, aZ (kG κ) 2 f6), (a 7, aI (kG κ) 60 f7), (a 17, aI (kG κ) 12 f17), (a 21, aI (kG κ) 12 f21), (a 22, aI (kG κ) 12 f22), (a 23, aI (kG κ) 12 f23), (a 24, aI (kG κ) 12 f24), (a 25, aI (kG κ) 12 f25), (a 26, aI (kG κ) 12 f26), (a 27, aI (kG κ) 12 f27), (a 28, aI (kG κ) 12 f28), (a 29, aZ (kG κ) 4 f29), (a 31, aI (kG κ) 1300 f31), (a 32, aI (kG κ) 1300 f32), (a 33, aI (kG κ) 1300 f33), (a 34, aI (kG κ) 1300 f34), (a 35, aI (kG κ) 13000 f35), (a 36, aI (kG κ) 606 f36), (a 37, aI (kG κ) 12 f37), (a 38, aI (kG κ) 12 f38), (a 41, aI (kG κ) 64 f41)]) C 4 (800 * jq + k) dX9_save_43 rfl rfl (by decide) rfl (by omega) rfl ?_
          refine w_iinc (nx := 47) (lo2 := [(2, .int (nI (k + 1))), (0, .ref (a 0)), (1, .int (nI jq))]) C (nI (k + 1)) 2 dX9_save_44 rfl rfl (nI_add _ _) (by decide) rfl ?_
          refine w_goto (nx := 19) C dX9_save_47 rfl ?_
          refine ww_lo [1, 2, 0] (lo' := [(0, .ref (a 0)), (1, .int (nI jq)), (2, .int (nI (k + 1)))]) rfl ?_
          exact ih9_19 (upd g5 (800 * jq + k) (f1 k)) (k + 1) (by first | assumption | omega) (fun i hi => (Nat.lt_or_ge i k).elim (fun z => (upd_n (by omega)).trans (hg1 i z)) (fun z => by have e9 : i = k := (by omega); subst e9; exact upd_e rfl)) (fun j hj => (upd_n (by omega)).trans (hg2 j hj)) (by omega)
    refine ww_lo [1, 2, 0] (lo' := [(0, .ref (a 0)), (1, .int (nI jq)), (2, .int (nI 0))]) rfl ?_
    exact LP_3 _ f5 0 (Nat.zero_le _) (fun i hi => absurd hi (Nat.not_lt_zero _)) (fun _ _ => rfl) (Nat.lt_succ_self _)
  · have hno := h_2
    refine w_bipush (nx := 16) C (-2) dX9_save_14 rfl (by decide) ?_
    have ho9 : o_save X q = ((-2), X) := by unfold o_save; rw [if_pos hno]
    refine w_iret (ty := .int) C E dX9_save_16 rfl rfl (Nat.le_refl _) (Nat.le_refl _) ?_
    rw [ho9]
    exact ⟨_, rfl, rfl, _, _, _, _, _, _, _, _, _, _, _, _, _, _, _, _, _, _, _, _, _, _, _, _, _, _, _, rfl, rfl, hO, hS, hU, hUn, hSl, hPd, h18⟩
set_option maxHeartbeats 4000000 in
set_option maxRecDepth 100000 in
theorem c_X9_restore (l : Launch) (G : GG) (h : Nat) (w : va_W) (X : SX) (q : Int32) (hRX : RMX G h w X) : MT l G yX9_restore cX9_restore 3 (some .int) 3 0 0 [.ref h, .int q] ((w)) (fun v9 ws9 => ∃ (w2 : va_W), v9 = some (.int ((o_restore X q).1)) ∧ ws9 = ((w2)) ∧ RMX G h w2 (o_restore X q).2) := by
  refine RMX_elim hRX (fun a v f1 f2 f3 f5 f6 f7 f17 f21 f22 f23 f24 f25 f26 f27 f28 f29 f31 f32 f33 f34 f35 f36 f37 f38 f41 hw9 hh hO hS hU hUn hSl hPd h18 => ?_)
  subst hw9
  subst hh
  refine MT.of RX9 [(0, .ref (a 0)), (1, .int q)] (by decide +kernel) rfl rfl (Nat.le_of_ble_eq_true rfl) (fun κ C E hl9 hG9 hnm9 => ?_)
  subst hl9; subst hG9
  have hn12 := hO.1.2.2.2.1.1
  have hj100 := hO.1.2.2.2.2
  have hz6 := hO.2.1.1
  have hp60 := hO.2.2.2.1
  have hd8 := hO.1.1
  have hl1 := hO.1.2.1
  have hzT := hO.1.2.2.1
  refine w_aload_n (nx := 1) C 0 dX9_restore_0 rfl rfl rfl ?_
  refine w_iconst (nx := 2) C (nI 0) dX9_restore_1 rfl (by decide) ?_
  refine w_putM (nx := 5) (ws2 := [(a 0, mO a (upd v 0 (nI 0))), (a 1, aI (kG κ) 800 f1), (a 2, aI (kG κ) 800 f2), (a 3, aI (kG κ) 4800 f3), (a 5, aI (kG κ) 1600 f5), (a 6, aZ (kG κ) 2 f6), (a 7, aI (kG κ) 60 f7), (a 17, aI (kG κ) 12 f17), (a 21, aI (kG κ) 12 f21), (a 22, aI (kG κ) 12 f22), (a 23, aI (kG κ) 12 f23), (a 24, aI (kG κ) 12 f24), (a 25, aI (kG κ) 12 f25), (a 26, aI (kG κ) 12 f26), (a 27, aI (kG κ) 12 f27), (a 28, aI (kG κ) 12 f28), (a 29, aZ (kG κ) 4 f29), (a 31, aI (kG κ) 1300 f31), (a 32, aI (kG κ) 1300 f32), (a 33, aI (kG κ) 1300 f33), (a 34, aI (kG κ) 1300 f34), (a 35, aI (kG κ) 13000 f35), (a 36, aI (kG κ) 606 f36), (a 37, aI (kG κ) 12 f37), (a 38, aI (kG κ) 12 f38), (a 41, aI (kG κ) 64 f41)]) C 0 0 dX9_restore_2 rfl wl_X9_90 rfl (by decide) rfl rfl rfl (ms_0 _ _ _) rfl ?_
  refine w_iload_n (nx := 6) C 1 dX9_restore_5 rfl rfl rfl ?_
  refine w_iconst (nx := 7) C (nI 0) dX9_restore_6 rfl (by decide) ?_
  refine w_iconst (nx := 8) C (nI 1) dX9_restore_7 rfl (by decide) ?_
  refine w_callS (nx := 11) (wr := [(a 0, mO a (upd v 0 (nI 0))), (a 1, aI (kG κ) 800 f1), (a 2, aI (kG κ) 800 f2), (a 3, aI (kG κ) 4800 f3), (a 5, aI (kG κ) 1600 f5), (a 6, aZ (kG κ) 2 f6), (a 7, aI (kG κ) 60 f7), (a 17, aI (kG κ) 12 f17), (a 21, aI (kG κ) 12 f21), (a 22, aI (kG κ) 12 f22), (a 23, aI (kG κ) 12 f23), (a 24, aI (kG κ) 12 f24), (a 25, aI (kG κ) 12 f25), (a 26, aI (kG κ) 12 f26), (a 27, aI (kG κ) 12 f27), (a 28, aI (kG κ) 12 f28), (a 29, aZ (kG κ) 4 f29), (a 31, aI (kG κ) 1300 f31), (a 32, aI (kG κ) 1300 f32), (a 33, aI (kG κ) 1300 f33), (a 34, aI (kG κ) 1300 f34), (a 35, aI (kG κ) 13000 f35), (a 36, aI (kG κ) 606 f36), (a 37, aI (kG κ) 12 f37), (a 38, aI (kG κ) 12 f38), (a 41, aI (kG κ) 64 f41)]) (rest := []) C ms_X9_in (c_X9_in_w _ _ q 2 (nI 1) (by decide) (by decide)) dX9_restore_8 rfl wl_X9_93 rfl (pm_sel [0, 1, 2, 3, 4, 5, 6, 7, 8, 9, 10, 11, 12, 13, 14, 15, 16, 17, 18, 19, 20, 21, 22, 23, 24, 25] 26 (by decide +kernel) rfl rfl) rfl rfl (Nat.le_of_ble_eq_true rfl) (Nat.le_of_ble_eq_true rfl) (Nat.le_of_ble_eq_true rfl) (Nat.zero_le _) (Nat.zero_le _) (fun v9 w9 R_1 => ?_)
  obtain ⟨rfl, rfl⟩ := R_1
  show WW κ 0 0 [(a 0, mO a (upd v 0 (nI 0))), (a 1, aI (kG κ) 800 f1), (a 2, aI (kG κ) 800 f2), (a 3, aI (kG κ) 4800 f3), (a 5, aI (kG κ) 1600 f5), (a 6, aZ (kG κ) 2 f6), (a 7, aI (kG κ) 60 f7), (a 17, aI (kG κ) 12 f17), (a 21, aI (kG κ) 12 f21), (a 22, aI (kG κ) 12 f22), (a 23, aI (kG κ) 12 f23), (a 24, aI (kG κ) 12 f24), (a 25, aI (kG κ) 12 f25), (a 26, aI (kG κ) 12 f26), (a 27, aI (kG κ) 12 f27), (a 28, aI (kG κ) 12 f28), (a 29, aZ (kG κ) 4 f29), (a 31, aI (kG κ) 1300 f31), (a 32, aI (kG κ) 1300 f32), (a 33, aI (kG κ) 1300 f33), (a 34, aI (kG κ) 1300 f34), (a 35, aI (kG κ) 13000 f35), (a 36, aI (kG κ) 606 f36), (a 37, aI (kG κ) 12 f37), (a 38, aI (kG κ) 12 f38), (a 41, aI (kG κ) 64 f41)] 11 [(0, .ref (a 0)), (1, .int q)] [.int (bC (wi q 2))]
  refine b_if_ne (tg := 17) (nx := 14) C dX9_restore_11 rfl rfl (fun h_2 => ?_) (fun h_2 => ?_)
  · obtain ⟨jq, hjq, rfl⟩ := h_2
    refine w_aload_n (nx := 18) C 0 dX9_restore_17 rfl rfl rfl ?_
    refine w_getM (nx := 21) C (.ref (a 6)) 0 6 dX9_restore_18 rfl wl_X9_22 rfl (by decide) rfl (mg_6 _ _) ?_
    refine w_iload_n (nx := 22) C 1 dX9_restore_21 rfl rfl rfl ?_
    refine w_zald (nx := 23) C (bC (∃ σ, xL X jq = some σ)) 5 jq dX9_restore_22 rfl rfl (by decide) rfl (by omega) ((hSl jq hjq).1) ?_
    refine b_if_ne (tg := 29) (nx := 26) C dX9_restore_23 rfl rfl (fun h_3 => ?_) (fun h_3 => ?_)
    · obtain ⟨σ9, hl9⟩ := h_3
      refine w_aload_n (nx := 30) C 0 dX9_restore_29 rfl rfl rfl ?_
      refine w_callV (nx := 33) (wr := [(a 2, aI (kG κ) 800 f2), (a 5, aI (kG κ) 1600 f5), (a 6, aZ (kG κ) 2 f6), (a 7, aI (kG κ) 60 f7), (a 17, aI (kG κ) 12 f17), (a 21, aI (kG κ) 12 f21), (a 22, aI (kG κ) 12 f22), (a 23, aI (kG κ) 12 f23), (a 24, aI (kG κ) 12 f24), (a 25, aI (kG κ) 12 f25), (a 26, aI (kG κ) 12 f26), (a 27, aI (kG κ) 12 f27), (a 28, aI (kG κ) 12 f28), (a 29, aZ (kG κ) 4 f29), (a 31, aI (kG κ) 1300 f31), (a 32, aI (kG κ) 1300 f32), (a 33, aI (kG κ) 1300 f33), (a 34, aI (kG κ) 1300 f34), (a 35, aI (kG κ) 13000 f35), (a 36, aI (kG κ) 606 f36), (a 37, aI (kG κ) 12 f37), (a 38, aI (kG κ) 12 f38), (a 41, aI (kG κ) 64 f41)]) (rest := []) C mi_X9_records (c_X9_records _ _ a (upd v 0 (nI 0)) f1 f3 (xH X) (xS X) (hU) (hz6) (hO.2.1) (hUn) (hS) (hO.1)) 0 dX9_restore_30 rfl wl_X9_205 rfl rfl rfl (pm_sel [0, 1, 3, 2, 4, 5, 6, 7, 8, 9, 10, 11, 12, 13, 14, 15, 16, 17, 18, 19, 20, 21, 22, 23, 24, 25] 26 (by decide +kernel) rfl rfl) rfl rfl (Nat.le_of_ble_eq_true rfl) (Nat.le_of_ble_eq_true rfl) (Nat.le_of_ble_eq_true rfl) (Nat.zero_le _) (Nat.zero_le _) (fun v9 w9 R_4 => ?_)
      obtain ⟨vR, gR3, rfl, rfl, hRU, hRq, hRn⟩ := R_4
      show WW κ 0 0 [(a 0, mO a vR), (a 1, aI (kG κ) 800 f1), (a 3, aI (kG κ) 4800 gR3), (a 2, aI (kG κ) 800 f2), (a 5, aI (kG κ) 1600 f5), (a 6, aZ (kG κ) 2 f6), (a 7, aI (kG κ) 60 f7), (a 17, aI (kG κ) 12 f17), (a 21, aI (kG κ) 12 f21), (a 22, aI (kG κ) 12 f22), (a 23, aI (kG κ) 12 f23), (a 24, aI (kG κ) 12 f24), (a 25, aI (kG κ) 12 f25), (a 26, aI (kG κ) 12 f26), (a 27, aI (kG κ) 12 f27), (a 28, aI (kG κ) 12 f28), (a 29, aZ (kG κ) 4 f29), (a 31, aI (kG κ) 1300 f31), (a 32, aI (kG κ) 1300 f32), (a 33, aI (kG κ) 1300 f33), (a 34, aI (kG κ) 1300 f34), (a 35, aI (kG κ) 13000 f35), (a 36, aI (kG κ) 606 f36), (a 37, aI (kG κ) 12 f37), (a 38, aI (kG κ) 12 f38), (a 41, aI (kG κ) 64 f41)] 33 [(0, .ref (a 0)), (1, .int (nI jq))] []
      refine w_iconst (nx := 34) C (nI 0) dX9_restore_33 rfl (by decide) ?_
      refine w_istore_n (nx := 35) (lo2 := [(2, .int (nI 0)), (0, .ref (a 0)), (1, .int (nI jq))]) C dX9_restore_34 rfl rfl (by decide) rfl ?_
      have LP_5 : ∀ (N9_35 : Nat) (g1 : Nat → Int32) (k : Nat), (k ≤ 800) → (∀ i, i < k → g1 i = f5 (800 * jq + i)) → (800 - k) < N9_35 → WW κ 0 0 [(a 0, mO a vR), (a 1, aI (kG κ) 800 g1), (a 2, aI (kG κ) 800 f2), (a 3, aI (kG κ) 4800 gR3), (a 5, aI (kG κ) 1600 f5), (a 6, aZ (kG κ) 2 f6), (a 7, aI (kG κ) 60 f7), (a 17, aI (kG κ) 12 f17), (a 21, aI (kG κ) 12 f21), (a 22, aI (kG κ) 12 f22), (a 23, aI (kG κ) 12 f23), (a 24, aI (kG κ) 12 f24), (a 25, aI (kG κ) 12 f25), (a 26, aI (kG κ) 12 f26), (a 27, aI (kG κ) 12 f27), (a 28, aI (kG κ) 12 f28), (a 29, aZ (kG κ) 4 f29), (a 31, aI (kG κ) 1300 f31), (a 32, aI (kG κ) 1300 f32), (a 33, aI (kG κ) 1300 f33), (a 34, aI (kG κ) 1300 f34), (a 35, aI (kG κ) 13000 f35), (a 36, aI (kG κ) 606 f36), (a 37, aI (kG κ) 12 f37), (a 38, aI (kG κ) 12 f38), (a 41, aI (kG κ) 64 f41)] 35 [(0, .ref (a 0)), (1, .int (nI jq)), (2, .int (nI k))] [] := by
        intro N9_35
        induction N9_35 with
        | zero => intro g1 k hk hg hm9_35; exact absurd hm9_35 (Nat.not_lt_zero _)
        | succ N9_35 ih9_35 =>
          intro g1 k hk hg hm9_35
          refine w_iload_n (nx := 36) C 2 dX9_restore_35 rfl rfl rfl ?_
          refine w_sipush (nx := 39) C (nI 800) dX9_restore_36 rfl (by decide) ?_
          refine n_icmp_ge (tg := 66) (nx := 42) C dX9_restore_39 rfl rfl (by omega) (by omega) (fun h_6 => ?_) (fun h_6 => ?_)
          · have hwq := hO.2.2.1 jq hjq σ9 hl9
            have hSq := rMS_eq ((hSl jq hjq).2 σ9 hl9) hwq (fun i hi => hg i (by omega))
            refine w_aload_n (nx := 67) C 0 dX9_restore_66 rfl rfl rfl ?_
            refine w_callV (nx := 70) (wr := [(a 2, aI (kG κ) 800 f2), (a 3, aI (kG κ) 4800 gR3), (a 5, aI (kG κ) 1600 f5), (a 6, aZ (kG κ) 2 f6), (a 7, aI (kG κ) 60 f7), (a 17, aI (kG κ) 12 f17), (a 21, aI (kG κ) 12 f21), (a 22, aI (kG κ) 12 f22), (a 23, aI (kG κ) 12 f23), (a 24, aI (kG κ) 12 f24), (a 25, aI (kG κ) 12 f25), (a 26, aI (kG κ) 12 f26), (a 27, aI (kG κ) 12 f27), (a 28, aI (kG κ) 12 f28), (a 29, aZ (kG κ) 4 f29), (a 31, aI (kG κ) 1300 f31), (a 32, aI (kG κ) 1300 f32), (a 33, aI (kG κ) 1300 f33), (a 34, aI (kG κ) 1300 f34), (a 35, aI (kG κ) 13000 f35), (a 36, aI (kG κ) 606 f36), (a 37, aI (kG κ) 12 f37), (a 38, aI (kG κ) 12 f38), (a 41, aI (kG κ) 64 f41)]) (rest := []) C mi_X9_allRows (c_X9_allRows _ _ a vR g1 (sT σ9) (hSq.2.2.1) (hwq.2.2.1)) 0 dX9_restore_67 rfl wl_X9_261 rfl rfl rfl (pm_sel [0, 1, 2, 3, 4, 5, 6, 7, 8, 9, 10, 11, 12, 13, 14, 15, 16, 17, 18, 19, 20, 21, 22, 23, 24, 25] 26 (by decide +kernel) rfl rfl) rfl rfl (Nat.le_of_ble_eq_true rfl) (Nat.le_of_ble_eq_true rfl) (Nat.le_of_ble_eq_true rfl) (Nat.zero_le _) (Nat.zero_le _) (fun v9 w9 R_7 => ?_)
            obtain ⟨rfl, rfl⟩ := R_7
            show WW κ 0 0 [(a 0, mO a vR), (a 1, aI (kG κ) 800 g1), (a 2, aI (kG κ) 800 f2), (a 3, aI (kG κ) 4800 gR3), (a 5, aI (kG κ) 1600 f5), (a 6, aZ (kG κ) 2 f6), (a 7, aI (kG κ) 60 f7), (a 17, aI (kG κ) 12 f17), (a 21, aI (kG κ) 12 f21), (a 22, aI (kG κ) 12 f22), (a 23, aI (kG κ) 12 f23), (a 24, aI (kG κ) 12 f24), (a 25, aI (kG κ) 12 f25), (a 26, aI (kG κ) 12 f26), (a 27, aI (kG κ) 12 f27), (a 28, aI (kG κ) 12 f28), (a 29, aZ (kG κ) 4 f29), (a 31, aI (kG κ) 1300 f31), (a 32, aI (kG κ) 1300 f32), (a 33, aI (kG κ) 1300 f33), (a 34, aI (kG κ) 1300 f34), (a 35, aI (kG κ) 13000 f35), (a 36, aI (kG κ) 606 f36), (a 37, aI (kG κ) 12 f37), (a 38, aI (kG κ) 12 f38), (a 41, aI (kG κ) 64 f41)] 70 [(0, .ref (a 0)), (1, .int (nI jq)), (2, .int (nI k))] [.int (nI (allT (sT σ9)))]
            have ho9 : o_restore X (nI jq) = ((nI (allT (sT σ9))), (σ9, kpH (xH X) (xS X), xL X, xP X)) := by unfold o_restore; rw [if_neg (fun z => z ⟨jq, hjq, rfl⟩), tn_nI (show jq < 2 ^ 31 by omega), hl9]
            have hw9 : wfO (σ9, kpH (xH X) (xS X), xL X, xP X) := by
              have z9 : wfO (o_restore X (nI jq)).2 := w_o_restore hO
              rw [ho9] at z9
              exact z9
            refine w_iret (ty := .int) C E dX9_restore_70 rfl rfl (Nat.le_refl _) (Nat.le_refl _) ?_
            rw [ho9]
            exact ⟨_, rfl, rfl, _, _, _, _, _, _, _, _, _, _, _, _, _, _, _, _, _, _, _, _, _, _, _, _, _, _, _, rfl, rfl, hw9, hSq, hRU, hRn, hSl, (⟨(hRq 8 (by decide)).trans hPd.1, hPd.2⟩), ((hRq 18 (by decide)).trans h18)⟩
          · refine w_aload_n (nx := 43) C 0 dX9_restore_42 rfl rfl rfl ?_
            refine w_getM (nx := 46) C (.ref (a 1)) 0 1 dX9_restore_43 rfl wl_X9_7 rfl (by decide) rfl (mg_1 _ _) ?_
            refine w_iload_n (nx := 47) C 2 dX9_restore_46 rfl rfl rfl ?_
            refine w_aload_n (nx := 48) C 0 dX9_restore_47 rfl rfl rfl ?_
            refine w_getM (nx := 51) C (.ref (a 5)) 0 5 dX9_restore_48 rfl wl_X9_19 rfl (by decide) rfl (mg_5 _ _) ?_
            refine w_sipush (nx := 54) C (nI 800) dX9_restore_51 rfl (by decide) ?_
            refine w_iload_n (nx := 55) C 1 dX9_restore_54 rfl rfl rfl ?_
            refine w_imul (nx := 56) C (nI (800 * jq)) dX9_restore_55 rfl (pk_mul _ _) ?_
            refine w_iload_n (nx := 57) C 2 dX9_restore_56 rfl rfl rfl ?_
            refine w_iadd (nx := 58) C (nI (800 * jq + k)) dX9_restore_57 rfl (nI_add _ _) ?_
            refine w_iald (nx := 59) C (f5 (800 * jq + k)) 4 (800 * jq + k) dX9_restore_58 rfl rfl (by decide) rfl (by omega) rfl ?_
            refine w_iast (nx := 60) (ws2 := [(a 0, mO a vR), (a 1, aI (kG κ) 800 (upd g1 k (f5 (800 * jq + k)))), (a 2, aI (kG κ) 800 f2), (a 3, aI (kG κ) 4800 gR3), (a 5, aI (kG κ) 1600 f5), (a 6, aZ (kG κ) 2 f6), (a 7, aI (kG κ) 60 f7), (a 17, aI (kG κ) 12 f17), (a 21, aI (kG κ) 12 f21), (a 22, aI (kG κ) 12 f22), (a 23, aI (kG κ) 12 f23), (a 24, aI (kG κ) 12 f24), (a 25, aI (kG κ) 12 f25), (a 26, aI (kG κ) 12 f26), (a 27, aI (kG κ) 12 f27), (a 28, aI (kG κ) 12 f28), (a 29, aZ (kG κ) 4 f29), (a 31, aI (kG κ) 1300 f31), (a 32, aI (kG κ) 1300 f32), (a 33, aI (kG κ) 1300 f33), (a 34, aI (kG κ) 1300 f34), (a 35, aI (kG κ) 13000 f35), (a 36, aI (kG κ) 606 f36), (a 37, aI (kG κ) 12 f37), (a 38, aI (kG κ) 12 f38), (a 41, aI (kG κ) 64 f41)]) C 1 k dX9_restore_59 rfl rfl (by decide) rfl (by omega) rfl ?_
            refine w_iinc (nx := 63) (lo2 := [(2, .int (nI (k + 1))), (0, .ref (a 0)), (1, .int (nI jq))]) C (nI (k + 1)) 2 dX9_restore_60 rfl rfl (nI_add _ _) (by decide) rfl ?_
            refine w_goto (nx := 35) C dX9_restore_63 rfl ?_
            refine ww_lo [1, 2, 0] (lo' := [(0, .ref (a 0)), (1, .int (nI jq)), (2, .int (nI (k + 1)))]) rfl ?_
            exact ih9_35 (upd g1 k (f5 (800 * jq + k))) (k + 1) (by first | assumption | omega) (fun i hi => (Nat.lt_or_ge i k).elim (fun z => (upd_n (by omega)).trans (hg i z)) (fun z => by have e9 : i = k := (by omega); subst e9; exact upd_e rfl)) (by omega)
      refine ww_sel (l := [(a 0, mO a vR), (a 1, aI (kG κ) 800 f1), (a 2, aI (kG κ) 800 f2), (a 3, aI (kG κ) 4800 gR3), (a 5, aI (kG κ) 1600 f5), (a 6, aZ (kG κ) 2 f6), (a 7, aI (kG κ) 60 f7), (a 17, aI (kG κ) 12 f17), (a 21, aI (kG κ) 12 f21), (a 22, aI (kG κ) 12 f22), (a 23, aI (kG κ) 12 f23), (a 24, aI (kG κ) 12 f24), (a 25, aI (kG κ) 12 f25), (a 26, aI (kG κ) 12 f26), (a 27, aI (kG κ) 12 f27), (a 28, aI (kG κ) 12 f28), (a 29, aZ (kG κ) 4 f29), (a 31, aI (kG κ) 1300 f31), (a 32, aI (kG κ) 1300 f32), (a 33, aI (kG κ) 1300 f33), (a 34, aI (kG κ) 1300 f34), (a 35, aI (kG κ) 13000 f35), (a 36, aI (kG κ) 606 f36), (a 37, aI (kG κ) 12 f37), (a 38, aI (kG κ) 12 f38), (a 41, aI (kG κ) 64 f41)]) (pm_sel [0, 1, 3, 2, 4, 5, 6, 7, 8, 9, 10, 11, 12, 13, 14, 15, 16, 17, 18, 19, 20, 21, 22, 23, 24, 25] 26 (by decide +kernel) rfl rfl) ?_
      refine ww_lo [1, 2, 0] (lo' := [(0, .ref (a 0)), (1, .int (nI jq)), (2, .int (nI 0))]) rfl ?_
      exact LP_5 _ f1 0 (Nat.zero_le _) (fun i hi => absurd hi (Nat.not_lt_zero _)) (Nat.lt_succ_self _)
    · have hnn : xL X jq = none := by
        rcases e9 : xL X jq with _ | σ9
        · rfl
        · exact absurd ⟨σ9, e9⟩ h_3
      refine w_bipush (nx := 28) C (-5) dX9_restore_26 rfl (by decide) ?_
      have ho9 : o_restore X (nI jq) = ((-5), X) := by unfold o_restore; rw [if_neg (fun z => z ⟨jq, hjq, rfl⟩), tn_nI (show jq < 2 ^ 31 by omega), hnn]
      refine w_iret (ty := .int) C E dX9_restore_28 rfl rfl (Nat.le_refl _) (Nat.le_refl _) ?_
      rw [ho9]
      exact ⟨_, rfl, rfl, _, _, _, _, _, _, _, _, _, _, _, _, _, _, _, _, _, _, _, _, _, _, _, _, _, _, _, rfl, rfl, hO, hS, hU, hUn, hSl, hPd, h18⟩
  · have hno := h_2
    refine w_bipush (nx := 16) C (-2) dX9_restore_14 rfl (by decide) ?_
    have ho9 : o_restore X q = ((-2), X) := by unfold o_restore; rw [if_pos hno]
    refine w_iret (ty := .int) C E dX9_restore_16 rfl rfl (Nat.le_refl _) (Nat.le_refl _) ?_
    rw [ho9]
    exact ⟨_, rfl, rfl, _, _, _, _, _, _, _, _, _, _, _, _, _, _, _, _, _, _, _, _, _, _, _, _, _, _, _, rfl, rfl, hO, hS, hU, hUn, hSl, hPd, h18⟩
