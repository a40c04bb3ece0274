set_option maxHeartbeats 4000000 in
set_option maxRecDepth 100000 in
theorem c_X9_fails (l : Launch) (G : GG) (a : Nat → Nat) (v : Nat → Int32) (f17 : Nat → Int32) (f21 : Nat → Int32) (why : Nat) (t : Nat) (ky : Nat) (d : Nat) (hd : d ≤ 9) : MT l G yX9_fails cX9_fails 6 none 1 0 0 [.ref (a 0), .int (nI why), .int (nI t), .int (nI ky), .int (nI d)] [(a 0, mO a v), (a 17, aI G 12 f17), (a 21, aI G 12 f21)] (fun v9 ws9 => ∃ (g17 : Nat → Int32), v9 = none ∧ ws9 = [(a 0, mO a (upd (upd (upd (upd v 9 (nI why)) 14 (nI t)) 15 (nI ky)) 16 (nI d))), (a 17, aI G 12 g17), (a 21, aI G 12 f21)] ∧ (∀ k, k < d → g17 k = f21 k)) := by
  refine MT.of RX9 [(0, .ref (a 0)), (1, .int (nI why)), (2, .int (nI t)), (3, .int (nI ky)), (4, .int (nI d))] (by decide +kernel) rfl rfl (Nat.le_of_ble_eq_true rfl) (fun κ C E hl9 hG9 hnm9 => ?_)
  subst hl9; subst hG9
  refine w_aload_n (nx := 1) C 0 dX9_fails_0 rfl rfl rfl ?_
  refine w_iload_n (nx := 2) C 1 dX9_fails_1 rfl rfl rfl ?_
  refine w_putM (nx := 5) (ws2 := [(a 0, mO a (upd v 9 (nI why))), (a 17, aI (kG κ) 12 f17), (a 21, aI (kG κ) 12 f21)]) C 0 9 dX9_fails_2 rfl wl_X9_114 rfl (by decide) rfl rfl rfl (ms_9 _ _ _) rfl ?_
  refine w_aload_n (nx := 6) C 0 dX9_fails_5 rfl rfl rfl ?_
  refine w_iload_n (nx := 7) C 2 dX9_fails_6 rfl rfl rfl ?_
  refine w_putM (nx := 10) (ws2 := [(a 0, mO a (upd (upd v 9 (nI why)) 14 (nI t))), (a 17, aI (kG κ) 12 f17), (a 21, aI (kG κ) 12 f21)]) C 0 14 dX9_fails_7 rfl wl_X9_117 rfl (by decide) rfl rfl rfl (ms_14 _ _ _) rfl ?_
  refine w_aload_n (nx := 11) C 0 dX9_fails_10 rfl rfl rfl ?_
  refine w_iload_n (nx := 12) C 3 dX9_fails_11 rfl rfl rfl ?_
  refine w_putM (nx := 15) (ws2 := [(a 0, mO a (upd (upd (upd v 9 (nI why)) 14 (nI t)) 15 (nI ky))), (a 17, aI (kG κ) 12 f17), (a 21, aI (kG κ) 12 f21)]) C 0 15 dX9_fails_12 rfl wl_X9_120 rfl (by decide) rfl rfl rfl (ms_15 _ _ _) rfl ?_
  refine w_aload_n (nx := 16) C 0 dX9_fails_15 rfl rfl rfl ?_
  refine w_iload (nx := 18) C 4 dX9_fails_16 rfl rfl ?_
  refine w_putM (nx := 21) (ws2 := [(a 0, mO a (upd (upd (upd (upd v 9 (nI why)) 14 (nI t)) 15 (nI ky)) 16 (nI d))), (a 17, aI (kG κ) 12 f17), (a 21, aI (kG κ) 12 f21)]) C 0 16 dX9_fails_18 rfl wl_X9_123 rfl (by decide) rfl rfl rfl (ms_16 _ _ _) rfl ?_
  refine w_iconst (nx := 22) C (nI 0) dX9_fails_21 rfl (by decide) ?_
  refine w_istore (nx := 24) (lo2 := [(5, .int (nI 0)), (0, .ref (a 0)), (1, .int (nI why)), (2, .int (nI t)), (3, .int (nI ky)), (4, .int (nI d))]) C dX9_fails_22 rfl (by decide) rfl ?_
  have LP_1 : ∀ (N9_24 : Nat) (g17 : Nat → Int32) (k : Nat), (k ≤ d) → (∀ q, q < k → g17 q = f21 q) → (d - k) < N9_24 → WW κ 0 0 [(a 0, mO a (upd (upd (upd (upd v 9 (nI why)) 14 (nI t)) 15 (nI ky)) 16 (nI d))), (a 17, aI (kG κ) 12 g17), (a 21, aI (kG κ) 12 f21)] 24 [(0, .ref (a 0)), (1, .int (nI why)), (2, .int (nI t)), (3, .int (nI ky)), (4, .int (nI d)), (5, .int (nI k))] [] := by
    intro N9_24
    induction N9_24 with
    | zero => intro g17 k hk hg hm9_24; exact absurd hm9_24 (Nat.not_lt_zero _)
    | succ N9_24 ih9_24 =>
      intro g17 k hk hg hm9_24
      refine w_iload (nx := 26) C 5 dX9_fails_24 rfl rfl ?_
      refine w_iload (nx := 28) C 4 dX9_fails_26 rfl rfl ?_
      refine n_icmp_ge (tg := 51) (nx := 31) C dX9_fails_28 rfl rfl (by omega) (by omega) (fun h_2 => ?_) (fun h_2 => ?_)
      · exact w_vret C E dX9_fails_51 rfl (Nat.le_refl _) (Nat.le_refl _) ⟨_, rfl, rfl, (fun q hq => hg q (by omega))⟩
      · refine w_aload_n (nx := 32) C 0 dX9_fails_31 rfl rfl rfl ?_
        refine w_getM (nx := 35) C (.ref (a 17)) 0 17 dX9_fails_32 rfl wl_X9_29 rfl (by decide) rfl (mg_17 _ _) ?_
        refine w_iload (nx := 37) C 5 dX9_fails_35 rfl rfl ?_
        refine w_aload_n (nx := 38) C 0 dX9_fails_37 rfl rfl rfl ?_
        refine w_getM (nx := 41) C (.ref (a 21)) 0 21 dX9_fails_38 rfl wl_X9_36 rfl (by decide) rfl (mg_21 _ _) ?_
        refine w_iload (nx := 43) C 5 dX9_fails_41 rfl rfl ?_
        refine w_iald (nx := 44) C (f21 k) 2 k dX9_fails_43 rfl rfl (by decide) rfl (by omega) rfl ?_
        refine w_iast (nx := 45) (ws2 := [(a 0, mO a (upd (upd (upd (upd v 9 (nI why)) 14 (nI t)) 15 (nI ky)) 16 (nI d))), (a 17, aI (kG κ) 12 (upd g17 k (f21 k))), (a 21, aI (kG κ) 12 f21)]) C 1 k dX9_fails_44 rfl rfl (by decide) rfl (by omega) rfl ?_
        refine w_iinc (nx := 48) (lo2 := [(5, .int (nI (k + 1))), (0, .ref (a 0)), (1, .int (nI why)), (2, .int (nI t)), (3, .int (nI ky)), (4, .int (nI d))]) C (nI (k + 1)) 5 dX9_fails_45 rfl rfl (nI_add _ _) (by decide) rfl ?_
        refine w_goto (nx := 24) C dX9_fails_48 rfl ?_
        refine ww_lo [1, 2, 3, 4, 5, 0] (lo' := [(0, .ref (a 0)), (1, .int (nI why)), (2, .int (nI t)), (3, .int (nI ky)), (4, .int (nI d)), (5, .int (nI (k + 1)))]) rfl ?_
        exact ih9_24 (upd g17 k (f21 k)) (k + 1) (by first | assumption | omega) (fun q hq => (Nat.lt_or_ge q k).elim (fun z => (upd_n (by omega)).trans (hg q z)) (fun z => by have e9 : q = k := (by omega); subst e9; exact upd_e rfl)) (by omega)
  refine ww_lo [1, 2, 3, 4, 5, 0] (lo' := [(0, .ref (a 0)), (1, .int (nI why)), (2, .int (nI t)), (3, .int (nI ky)), (4, .int (nI d)), (5, .int (nI 0))]) rfl ?_
  exact LP_1 _ f17 0 (Nat.zero_le _) (fun q hq => absurd hq (Nat.not_lt_zero _)) (Nat.lt_succ_self _)
set_option maxHeartbeats 4000000 in
set_option maxRecDepth 100000 in
theorem c_X9_isSetOff (l : Launch) (G : GG) (a : Nat → Nat) (v : Nat → Int32) (f1 : Nat → Int32) (f22 : Nat → Int32) (f23 : Nat → Int32) (f26 : Nat → Int32) (g : CF) (wo : Int32) (j : Nat) (d : Nat) (st : Nat) (kd : Nat) (t : Nat) (w : Nat) (hR : rMR f1 (cR g)) (hg : wfR (cR g)) (hwo : ∀ i, i < 12 → (nI i = wo ↔ i = cO g)) (h18 : v 18 = wo) (hj : j < (cR g).1) (hd : d < 12) (hst : st < 3) (h22 : f22 d = nI kd) (h23 : f23 d = nI t) (h26 : f26 d = nI w) (hkd : kd < 3) (ht : t < 4) (hw : w < 1000) : MT l G yX9_isSetOff cX9_isSetOff 5 (some .boolean) 2 0 0 [.ref (a 0), .int (nI j), .int (nI d), .int (nI st)] [(a 0, mO a v), (a 1, aI G 800 f1), (a 22, aI G 12 f22), (a 23, aI G 12 f23), (a 26, aI G 12 f26)] (fun v9 ws9 => v9 = some (.int (bC (soff g j st kd t w))) ∧ ws9 = [(a 0, mO a v), (a 1, aI G 800 f1), (a 22, aI G 12 f22), (a 23, aI G 12 f23), (a 26, aI G 12 f26)]) := by
  refine MT.of RX9 [(0, .ref (a 0)), (1, .int (nI j)), (2, .int (nI d)), (3, .int (nI st))] (by decide +kernel) rfl rfl (Nat.le_of_ble_eq_true rfl) (fun κ C E hl9 hG9 hnm9 => ?_)
  subst hl9; subst hG9
  have hn12 := hg.1
  have hj9 := hg.2 j hj
  refine w_iload_n (nx := 1) C 1 dX9_isSetOff_0 rfl rfl rfl ?_
  refine w_aload_n (nx := 2) C 0 dX9_isSetOff_1 rfl rfl rfl ?_
  refine w_getM (nx := 5) C (.int (v 18)) 0 18 dX9_isSetOff_2 rfl wl_X9_32 rfl (by decide) rfl (mg_18 _ _) ?_
  refine w_top wo h18 ?_
  refine w_icmp_eq (tg := 42) (nx := 8) C dX9_isSetOff_5 rfl rfl (fun h_1 => ?_) (fun h_1 => ?_)
  · have hw9 := (hwo j (by omega)).mp h_1
    refine w_iconst (nx := 43) C (nI 0) dX9_isSetOff_42 rfl (by decide) ?_
    refine w_istore (nx := 45) (lo2 := [(4, .int (nI 0)), (0, .ref (a 0)), (1, .int (nI j)), (2, .int (nI d)), (3, .int (nI st))]) C dX9_isSetOff_43 rfl (by decide) rfl ?_
    refine w_iload (nx := 47) C 0 dX9_isSetOff_45 rfl rfl ?_
    refine w_if_eq (tg := 79) (nx := 50) C dX9_isSetOff_47 rfl rfl (fun _ => ?_) (fun q9 => absurd (by decide) q9)
    refine w_iconst (nx := 80) C (nI 0) dX9_isSetOff_79 rfl (by decide) ?_
    exact w_iret (ty := .boolean) C E dX9_isSetOff_80 rfl rfl (Nat.le_refl _) (Nat.le_refl _) ⟨(congrArg (fun z => some (Value.int z)) (bC_0 (fun h9 => by obtain ⟨a1, a2, a3, a4, a5⟩ := h9; first | exact absurd hw9 a1 | omega))), rfl⟩
  · have hw9 : ¬ j = cO g := fun e => h_1 ((hwo j (by omega)).mpr e)
    refine w_aload_n (nx := 9) C 0 dX9_isSetOff_8 rfl rfl rfl ?_
    refine w_iload_n (nx := 10) C 1 dX9_isSetOff_9 rfl rfl rfl ?_
    refine w_iconst (nx := 11) C (nI 0) dX9_isSetOff_10 rfl (by decide) ?_
    refine w_callV (nx := 14) (wr := [(a 22, aI (kG κ) 12 f22), (a 23, aI (kG κ) 12 f23), (a 26, aI (kG κ) 12 f26)]) (rest := []) C mi_X9_of (c_X9_of _ _ a v f1 j 0 (nI ((cR g).2 j 0)) (by first | assumption | omega) (by first | assumption | omega) (hR.2.1 j hj 0 (by decide))) 0 dX9_isSetOff_11 rfl wl_X9_146 rfl rfl rfl (pm_sel [0, 1, 2, 3, 4] 5 (by decide +kernel) rfl rfl) rfl rfl (Nat.le_of_ble_eq_true rfl) (Nat.le_of_ble_eq_true rfl) (Nat.le_of_ble_eq_true rfl) (Nat.zero_le _) (Nat.zero_le _) (fun v9 w9 R_3 => ?_)
    obtain ⟨rfl, rfl⟩ := R_3
    show WW κ 0 0 [(a 0, mO a v), (a 1, aI (kG κ) 800 f1), (a 22, aI (kG κ) 12 f22), (a 23, aI (kG κ) 12 f23), (a 26, aI (kG κ) 12 f26)] 14 [(0, .ref (a 0)), (1, .int (nI j)), (2, .int (nI d)), (3, .int (nI st))] [.int (nI ((cR g).2 j 0))]
    refine w_aload_n (nx := 15) C 0 dX9_isSetOff_14 rfl rfl rfl ?_
    refine w_getM (nx := 18) C (.ref (a 23)) 0 23 dX9_isSetOff_15 rfl wl_X9_42 rfl (by decide) rfl (mg_23 _ _) ?_
    refine w_iload_n (nx := 19) C 2 dX9_isSetOff_18 rfl rfl rfl ?_
    refine w_iald (nx := 20) C (nI t) 3 d dX9_isSetOff_19 rfl rfl (by decide) rfl (by omega) h23 ?_
    refine n_icmp_ne (tg := 42) (nx := 23) C dX9_isSetOff_20 rfl rfl (by omega) (by omega) (fun h_4 => ?_) (fun h_4 => ?_)
    · refine w_iconst (nx := 43) C (nI 0) dX9_isSetOff_42 rfl (by decide) ?_
      refine w_istore (nx := 45) (lo2 := [(4, .int (nI 0)), (0, .ref (a 0)), (1, .int (nI j)), (2, .int (nI d)), (3, .int (nI st))]) C dX9_isSetOff_43 rfl (by decide) rfl ?_
      refine w_iload (nx := 47) C 0 dX9_isSetOff_45 rfl rfl ?_
      refine w_if_eq (tg := 79) (nx := 50) C dX9_isSetOff_47 rfl rfl (fun _ => ?_) (fun q9 => absurd (by decide) q9)
      refine w_iconst (nx := 80) C (nI 0) dX9_isSetOff_79 rfl (by decide) ?_
      exact w_iret (ty := .boolean) C E dX9_isSetOff_80 rfl rfl (Nat.le_refl _) (Nat.le_refl _) ⟨(congrArg (fun z => some (Value.int z)) (bC_0 (fun h9 => by obtain ⟨a1, a2, a3, a4, a5⟩ := h9; first | exact absurd hw9 a1 | omega))), rfl⟩
    · refine w_aload_n (nx := 24) C 0 dX9_isSetOff_23 rfl rfl rfl ?_
      refine w_iload_n (nx := 25) C 1 dX9_isSetOff_24 rfl rfl rfl ?_
      refine w_iconst (nx := 26) C (nI 1) dX9_isSetOff_25 rfl (by decide) ?_
      refine w_callV (nx := 29) (wr := [(a 22, aI (kG κ) 12 f22), (a 23, aI (kG κ) 12 f23), (a 26, aI (kG κ) 12 f26)]) (rest := []) C mi_X9_of (c_X9_of _ _ a v f1 j 1 (nI ((cR g).2 j 1)) (by first | assumption | omega) (by first | assumption | omega) (hR.2.1 j hj 1 (by decide))) 0 dX9_isSetOff_26 rfl wl_X9_146 rfl rfl rfl (pm_sel [0, 1, 2, 3, 4] 5 (by decide +kernel) rfl rfl) rfl rfl (Nat.le_of_ble_eq_true rfl) (Nat.le_of_ble_eq_true rfl) (Nat.le_of_ble_eq_true rfl) (Nat.zero_le _) (Nat.zero_le _) (fun v9 w9 R_6 => ?_)
      obtain ⟨rfl, rfl⟩ := R_6
      show WW κ 0 0 [(a 0, mO a v), (a 1, aI (kG κ) 800 f1), (a 22, aI (kG κ) 12 f22), (a 23, aI (kG κ) 12 f23), (a 26, aI (kG κ) 12 f26)] 29 [(0, .ref (a 0)), (1, .int (nI j)), (2, .int (nI d)), (3, .int (nI st))] [.int (nI ((cR g).2 j 1))]
      refine w_aload_n (nx := 30) C 0 dX9_isSetOff_29 rfl rfl rfl ?_
      refine w_getM (nx := 33) C (.ref (a 22)) 0 22 dX9_isSetOff_30 rfl wl_X9_39 rfl (by decide) rfl (mg_22 _ _) ?_
      refine w_iload_n (nx := 34) C 2 dX9_isSetOff_33 rfl rfl rfl ?_
      refine w_iald (nx := 35) C (nI kd) 2 d dX9_isSetOff_34 rfl rfl (by decide) rfl (by omega) h22 ?_
      refine n_icmp_ne (tg := 42) (nx := 38) C dX9_isSetOff_35 rfl rfl (by omega) (by omega) (fun h_7 => ?_) (fun h_7 => ?_)
      · refine w_iconst (nx := 43) C (nI 0) dX9_isSetOff_42 rfl (by decide) ?_
        refine w_istore (nx := 45) (lo2 := [(4, .int (nI 0)), (0, .ref (a 0)), (1, .int (nI j)), (2, .int (nI d)), (3, .int (nI st))]) C dX9_isSetOff_43 rfl (by decide) rfl ?_
        refine w_iload (nx := 47) C 0 dX9_isSetOff_45 rfl rfl ?_
        refine w_if_eq (tg := 79) (nx := 50) C dX9_isSetOff_47 rfl rfl (fun _ => ?_) (fun q9 => absurd (by decide) q9)
        refine w_iconst (nx := 80) C (nI 0) dX9_isSetOff_79 rfl (by decide) ?_
        exact w_iret (ty := .boolean) C E dX9_isSetOff_80 rfl rfl (Nat.le_refl _) (Nat.le_refl _) ⟨(congrArg (fun z => some (Value.int z)) (bC_0 (fun h9 => by obtain ⟨a1, a2, a3, a4, a5⟩ := h9; first | exact absurd hw9 a1 | omega))), rfl⟩
      · refine w_iconst (nx := 39) C (nI 1) dX9_isSetOff_38 rfl (by decide) ?_
        refine w_goto (nx := 43) C dX9_isSetOff_39 rfl ?_
        refine w_istore (nx := 45) (lo2 := [(4, .int (nI 1)), (0, .ref (a 0)), (1, .int (nI j)), (2, .int (nI d)), (3, .int (nI st))]) C dX9_isSetOff_43 rfl (by decide) rfl ?_
        refine w_iload (nx := 47) C 0 dX9_isSetOff_45 rfl rfl ?_
        refine w_if_eq (tg := 79) (nx := 50) C dX9_isSetOff_47 rfl rfl (fun q9 => absurd q9 (by decide)) (fun _ => ?_)
        refine w_aload_n (nx := 51) C 1 dX9_isSetOff_50 rfl rfl rfl ?_
        refine w_iload_n (nx := 52) C 2 dX9_isSetOff_51 rfl rfl rfl ?_
        refine w_iconst (nx := 53) C (nI 2) dX9_isSetOff_52 rfl (by decide) ?_
        refine w_callV (nx := 56) (wr := [(a 22, aI (kG κ) 12 f22), (a 23, aI (kG κ) 12 f23), (a 26, aI (kG κ) 12 f26)]) (rest := []) C mi_X9_of (c_X9_of _ _ a v f1 j 2 (nI ((cR g).2 j 2)) (by first | assumption | omega) (by first | assumption | omega) (hR.2.1 j hj 2 (by decide))) 0 dX9_isSetOff_53 rfl wl_X9_146 rfl rfl rfl (pm_sel [0, 1, 2, 3, 4] 5 (by decide +kernel) rfl rfl) rfl rfl (Nat.le_of_ble_eq_true rfl) (Nat.le_of_ble_eq_true rfl) (Nat.le_of_ble_eq_true rfl) (Nat.zero_le _) (Nat.zero_le _) (fun v9 w9 R_10 => ?_)
        obtain ⟨rfl, rfl⟩ := R_10
        show WW κ 0 0 [(a 0, mO a v), (a 1, aI (kG κ) 800 f1), (a 22, aI (kG κ) 12 f22), (a 23, aI (kG κ) 12 f23), (a 26, aI (kG κ) 12 f26)] 56 [(4, .int (nI 1)), (0, .ref (a 0)), (1, .int (nI j)), (2, .int (nI d)), (3, .int (nI st))] [.int (nI ((cR g).2 j 2))]
        refine w_iload_n (nx := 57) C 4 dX9_isSetOff_56 rfl rfl rfl ?_
        refine n_icmp_ne (tg := 79) (nx := 60) C dX9_isSetOff_57 rfl rfl (by omega) (by omega) (fun h_11 => ?_) (fun h_11 => ?_)
        · refine w_iconst (nx := 80) C (nI 0) dX9_isSetOff_79 rfl (by decide) ?_
          exact w_iret (ty := .boolean) C E dX9_isSetOff_80 rfl rfl (Nat.le_refl _) (Nat.le_refl _) ⟨(congrArg (fun z => some (Value.int z)) (bC_0 (fun h9 => by obtain ⟨a1, a2, a3, a4, a5⟩ := h9; first | exact absurd hw9 a1 | omega))), rfl⟩
        · refine w_aload_n (nx := 61) C 1 dX9_isSetOff_60 rfl rfl rfl ?_
          refine w_getM (nx := 64) C (.ref (a 26)) 0 26 dX9_isSetOff_61 rfl wl_X9_51 rfl (by decide) rfl (mg_26 _ _) ?_
          refine w_iload_n (nx := 65) C 3 dX9_isSetOff_64 rfl rfl rfl ?_
          refine w_iald (nx := 66) C (nI w) 4 d dX9_isSetOff_65 rfl rfl (by decide) rfl (by omega) h26 ?_
          refine w_aload_n (nx := 67) C 1 dX9_isSetOff_66 rfl rfl rfl ?_
          refine w_iload_n (nx := 68) C 2 dX9_isSetOff_67 rfl rfl rfl ?_
          refine w_iconst (nx := 69) C (nI 3) dX9_isSetOff_68 rfl (by decide) ?_
          refine w_callV (nx := 72) (wr := [(a 22, aI (kG κ) 12 f22), (a 23, aI (kG κ) 12 f23), (a 26, aI (kG κ) 12 f26)]) (rest := [.int (nI w)]) C mi_X9_of (c_X9_of _ _ a v f1 j 3 (nI ((cR g).2 j 3)) (by first | assumption | omega) (by first | assumption | omega) (hR.2.1 j hj 3 (by decide))) 0 dX9_isSetOff_69 rfl wl_X9_146 rfl rfl rfl (pm_sel [0, 1, 2, 3, 4] 5 (by decide +kernel) rfl rfl) rfl rfl (Nat.le_of_ble_eq_true rfl) (Nat.le_of_ble_eq_true rfl) (Nat.le_of_ble_eq_true rfl) (Nat.zero_le _) (Nat.zero_le _) (fun v9 w9 R_12 => ?_)
          obtain ⟨rfl, rfl⟩ := R_12
          show WW κ 0 0 [(a 0, mO a v), (a 1, aI (kG κ) 800 f1), (a 22, aI (kG κ) 12 f22), (a 23, aI (kG κ) 12 f23), (a 26, aI (kG κ) 12 f26)] 72 [(4, .int (nI 1)), (0, .ref (a 0)), (1, .int (nI j)), (2, .int (nI d)), (3, .int (nI st))] [.int (nI ((cR g).2 j 3)), .int (nI w)]
          refine n_icmp_lt (tg := 79) (nx := 75) C dX9_isSetOff_72 rfl rfl (by omega) (by omega) (fun h_13 => ?_) (fun h_13 => ?_)
          · refine w_iconst (nx := 80) C (nI 0) dX9_isSetOff_79 rfl (by decide) ?_
            exact w_iret (ty := .boolean) C E dX9_isSetOff_80 rfl rfl (Nat.le_refl _) (Nat.le_refl _) ⟨(congrArg (fun z => some (Value.int z)) (bC_0 (fun h9 => by obtain ⟨a1, a2, a3, a4, a5⟩ := h9; first | exact absurd hw9 a1 | omega))), rfl⟩
          · refine w_iconst (nx := 76) C (nI 1) dX9_isSetOff_75 rfl (by decide) ?_
            refine w_goto (nx := 80) C dX9_isSetOff_76 rfl ?_
            exact w_iret (ty := .boolean) C E dX9_isSetOff_80 rfl rfl (Nat.le_refl _) (Nat.le_refl _) ⟨(congrArg (fun z => some (Value.int z)) (bC_1 ⟨hw9, by omega, by omega, by omega, by omega⟩)), rfl⟩
set_option maxHeartbeats 4000000 in
set_option maxRecDepth 100000 in
theorem c_X9_waitsFor (l : Launch) (G : GG) (a : Nat → Nat) (v : Nat → Int32) (f21 : Nat → Int32) (f23 : Nat → Int32) (f24 : Nat → Int32) (f31 : Nat → Int32) (f32 : Nat → Int32) (f33 : Nat → Int32) (f34 : Nat → Int32) (f35 : Nat → Int32) (j : Nat) (d : Nat) (W : Nat) (t : Nat) (ky : Nat) (ch : List Nat) (h30 : v 30 = nI W) (hW : W < 1300) (hd : d < 10) (h23 : f23 d = nI t) (h24 : f24 d = nI ky) (hc : ch.length = d) (hp : rCh f21 ch) : MT l G yX9_waitsFor cX9_waitsFor 4 none 1 0 0 [.ref (a 0), .int (nI j), .int (nI d)] [(a 0, mO a v), (a 21, aI G 12 f21), (a 23, aI G 12 f23), (a 24, aI G 12 f24), (a 31, aI G 1300 f31), (a 32, aI G 1300 f32), (a 33, aI G 1300 f33), (a 34, aI G 1300 f34), (a 35, aI G 13000 f35)] (fun v9 ws9 => ∃ (g35 : Nat → Int32), v9 = none ∧ ws9 = [(a 0, mO a (upd v 30 (nI (W + 1)))), (a 21, aI G 12 f21), (a 23, aI G 12 f23), (a 24, aI G 12 f24), (a 31, aI G 1300 (upd f31 W (nI j))), (a 32, aI G 1300 (upd f32 W (nI t))), (a 33, aI G 1300 (upd f33 W (nI ky))), (a 34, aI G 1300 (upd f34 W (nI d))), (a 35, aI G 13000 g35)] ∧ (∀ k, k < d → g35 (10 * W + k) = nI (ch.getD k 0)) ∧ (∀ q, q < 10 * W → g35 q = f35 q)) := by
  refine MT.of RX9 [(0, .ref (a 0)), (1, .int (nI j)), (2, .int (nI d))] (by decide +kernel) rfl rfl (Nat.le_of_ble_eq_true rfl) (fun κ C E hl9 hG9 hnm9 => ?_)
  subst hl9; subst hG9
  refine w_aload_n (nx := 1) C 0 dX9_waitsFor_0 rfl rfl rfl ?_
  refine w_getM (nx := 4) C (.ref (a 31)) 0 31 dX9_waitsFor_1 rfl wl_X9_63 rfl (by decide) rfl (mg_31 _ _) ?_
  refine w_aload_n (nx := 5) C 0 dX9_waitsFor_4 rfl rfl rfl ?_
  refine w_getM (nx := 8) C (.int (v 30)) 0 30 dX9_waitsFor_5 rfl wl_X9_164 rfl (by decide) rfl (mg_30 _ _) ?_
  refine w_top (nI W) h30 ?_
  refine w_iload_n (nx := 9) C 1 dX9_waitsFor_8 rfl rfl rfl ?_
  refine w_iast (nx := 10) (ws2 := [(a 0, mO a v), (a 21, aI (kG κ) 12 f21), (a 23, aI (kG κ) 12 f23), (a 24, aI (kG κ) 12 f24), (a 31, aI (kG κ) 1300 (upd f31 W (nI j))), (a 32, aI (kG κ) 1300 f32), (a 33, aI (kG κ) 1300 f33), (a 34, aI (kG κ) 1300 f34), (a 35, aI (kG κ) 13000 f35)]) C 4 W dX9_waitsFor_9 rfl rfl (by decide) rfl (by omega) rfl ?_
  refine w_aload_n (nx := 11) C 0 dX9_waitsFor_10 rfl rfl rfl ?_
  refine w_getM (nx := 14) C (.ref (a 32)) 0 32 dX9_waitsFor_11 rfl wl_X9_66 rfl (by decide) rfl (mg_32 _ _) ?_
  refine w_aload_n (nx := 15) C 0 dX9_waitsFor_14 rfl rfl rfl ?_
  refine w_getM (nx := 18) C (.int (v 30)) 0 30 dX9_waitsFor_15 rfl wl_X9_164 rfl (by decide) rfl (mg_30 _ _) ?_
  refine w_top (nI W) h30 ?_
  refine w_aload_n (nx := 19) C 0 dX9_waitsFor_18 rfl rfl rfl ?_
  refine w_getM (nx := 22) C (.ref (a 23)) 0 23 dX9_waitsFor_19 rfl wl_X9_42 rfl (by decide) rfl (mg_23 _ _) ?_
  refine w_iload_n (nx := 23) C 2 dX9_waitsFor_22 rfl rfl rfl ?_
  refine w_iald (nx := 24) C (nI t) 2 d dX9_waitsFor_23 rfl rfl (by decide) rfl (by omega) h23 ?_
  refine w_iast (nx := 25) (ws2 := [(a 0, mO a v), (a 21, aI (kG κ) 12 f21), (a 23, aI (kG κ) 12 f23), (a 24, aI (kG κ) 12 f24), (a 31, aI (kG κ) 1300 (upd f31 W (nI j))), (a 32, aI (kG κ) 1300 (upd f32 W (nI t))), (a 33, aI (kG κ) 1300 f33), (a 34, aI (kG κ) 1300 f34), (a 35, aI (kG κ) 13000 f35)]) C 5 W dX9_waitsFor_24 rfl rfl (by decide) rfl (by omega) rfl ?_
  refine w_aload_n (nx := 26) C 0 dX9_waitsFor_25 rfl rfl rfl ?_
  refine w_getM (nx := 29) C (.ref (a 33)) 0 33 dX9_waitsFor_26 rfl wl_X9_69 rfl (by decide) rfl (mg_33 _ _) ?_
  refine w_aload_n (nx := 30) C 0 dX9_waitsFor_29 rfl rfl rfl ?_
  refine w_getM (nx := 33) C (.int (v 30)) 0 30 dX9_waitsFor_30 rfl wl_X9_164 rfl (by decide) rfl (mg_30 _ _) ?_
  refine w_top (nI W) h30 ?_
  refine w_aload_n (nx := 34) C 0 dX9_waitsFor_33 rfl rfl rfl ?_
  refine w_getM (nx := 37) C (.ref (a 24)) 0 24 dX9_waitsFor_34 rfl wl_X9_45 rfl (by decide) rfl (mg_24 _ _) ?_
  refine w_iload_n (nx := 38) C 2 dX9_waitsFor_37 rfl rfl rfl ?_
  refine w_iald (nx := 39) C (nI ky) 3 d dX9_waitsFor_38 rfl rfl (by decide) rfl (by omega) h24 ?_
  refine w_iast (nx := 40) (ws2 := [(a 0, mO a v), (a 21, aI (kG κ) 12 f21), (a 23, aI (kG κ) 12 f23), (a 24, aI (kG κ) 12 f24), (a 31, aI (kG κ) 1300 (upd f31 W (nI j))), (a 32, aI (kG κ) 1300 (upd f32 W (nI t))), (a 33, aI (kG κ) 1300 (upd f33 W (nI ky))), (a 34, aI (kG κ) 1300 f34), (a 35, aI (kG κ) 13000 f35)]) C 6 W dX9_waitsFor_39 rfl rfl (by decide) rfl (by omega) rfl ?_
  refine w_aload_n (nx := 41) C 0 dX9_waitsFor_40 rfl rfl rfl ?_
  refine w_getM (nx := 44) C (.ref (a 34)) 0 34 dX9_waitsFor_41 rfl wl_X9_72 rfl (by decide) rfl (mg_34 _ _) ?_
  refine w_aload_n (nx := 45) C 0 dX9_waitsFor_44 rfl rfl rfl ?_
  refine w_getM (nx := 48) C (.int (v 30)) 0 30 dX9_waitsFor_45 rfl wl_X9_164 rfl (by decide) rfl (mg_30 _ _) ?_
  refine w_top (nI W) h30 ?_
  refine w_iload_n (nx := 49) C 2 dX9_waitsFor_48 rfl rfl rfl ?_
  refine w_iast (nx := 50) (ws2 := [(a 0, mO a v), (a 21, aI (kG κ) 12 f21), (a 23, aI (kG κ) 12 f23), (a 24, aI (kG κ) 12 f24), (a 31, aI (kG κ) 1300 (upd f31 W (nI j))), (a 32, aI (kG κ) 1300 (upd f32 W (nI t))), (a 33, aI (kG κ) 1300 (upd f33 W (nI ky))), (a 34, aI (kG κ) 1300 (upd f34 W (nI d))), (a 35, aI (kG κ) 13000 f35)]) C 7 W dX9_waitsFor_49 rfl rfl (by decide) rfl (by omega) rfl ?_
  refine w_iconst (nx := 51) C (nI 0) dX9_waitsFor_50 rfl (by decide) ?_
  refine w_istore_n (nx := 52) (lo2 := [(3, .int (nI 0)), (0, .ref (a 0)), (1, .int (nI j)), (2, .int (nI d))]) C dX9_waitsFor_51 rfl rfl (by decide) rfl ?_
  have LP_1 : ∀ (N9_52 : Nat) (g35 : Nat → Int32) (k : Nat), (k ≤ d) → (∀ q, q < k → g35 (10 * W + q) = nI (ch.getD q 0)) → (∀ q, q < 10 * W → g35 q = f35 q) → (d - k) < N9_52 → WW κ 0 0 [(a 0, mO a v), (a 21, aI (kG κ) 12 f21), (a 23, aI (kG κ) 12 f23), (a 24, aI (kG κ) 12 f24), (a 31, aI (kG κ) 1300 (upd f31 W (nI j))), (a 32, aI (kG κ) 1300 (upd f32 W (nI t))), (a 33, aI (kG κ) 1300 (upd f33 W (nI ky))), (a 34, aI (kG κ) 1300 (upd f34 W (nI d))), (a 35, aI (kG κ) 13000 g35)] 52 [(0, .ref (a 0)), (1, .int (nI j)), (2, .int (nI d)), (3, .int (nI k))] [] := by
    intro N9_52
    induction N9_52 with
    | zero => intro g35 k hk e1 e2 hm9_52; exact absurd hm9_52 (Nat.not_lt_zero _)
    | succ N9_52 ih9_52 =>
      intro g35 k hk e1 e2 hm9_52
      refine w_iload_n (nx := 53) C 3 dX9_waitsFor_52 rfl rfl rfl ?_
      refine w_iload_n (nx := 54) C 2 dX9_waitsFor_53 rfl rfl rfl ?_
      refine n_icmp_ge (tg := 83) (nx := 57) C dX9_waitsFor_54 rfl rfl (by omega) (by omega) (fun h_2 => ?_) (fun h_2 => ?_)
      · refine w_aload_n (nx := 84) C 0 dX9_waitsFor_83 rfl rfl rfl ?_
        refine w_dup (nx := 85) C dX9_waitsFor_84 rfl rfl ?_
        refine w_getM (nx := 88) C (.int (v 30)) 0 30 dX9_waitsFor_85 rfl wl_X9_164 rfl (by decide) rfl (mg_30 _ _) ?_
        refine w_top (nI W) h30 ?_
        refine w_iconst (nx := 89) C (nI 1) dX9_waitsFor_88 rfl (by decide) ?_
        refine w_iadd (nx := 90) C (nI (W + 1)) dX9_waitsFor_89 rfl (nI_add _ _) ?_
        refine w_putM (nx := 93) (ws2 := [(a 0, mO a (upd v 30 (nI (W + 1)))), (a 21, aI (kG κ) 12 f21), (a 23, aI (kG κ) 12 f23), (a 24, aI (kG κ) 12 f24), (a 31, aI (kG κ) 1300 (upd f31 W (nI j))), (a 32, aI (kG κ) 1300 (upd f32 W (nI t))), (a 33, aI (kG κ) 1300 (upd f33 W (nI ky))), (a 34, aI (kG κ) 1300 (upd f34 W (nI d))), (a 35, aI (kG κ) 13000 g35)]) C 0 30 dX9_waitsFor_90 rfl wl_X9_164 rfl (by decide) rfl rfl rfl (ms_30 _ _ _) rfl ?_
        exact w_vret C E dX9_waitsFor_93 rfl (Nat.le_refl _) (Nat.le_refl _) ⟨_, rfl, rfl, (fun q hq => e1 q (by omega)), (e2)⟩
      · refine w_aload_n (nx := 58) C 0 dX9_waitsFor_57 rfl rfl rfl ?_
        refine w_getM (nx := 61) C (.ref (a 35)) 0 35 dX9_waitsFor_58 rfl wl_X9_75 rfl (by decide) rfl (mg_35 _ _) ?_
        refine w_bipush (nx := 63) C (nI 10) dX9_waitsFor_61 rfl (by decide) ?_
        refine w_aload_n (nx := 64) C 0 dX9_waitsFor_63 rfl rfl rfl ?_
        refine w_getM (nx := 67) C (.int (v 30)) 0 30 dX9_waitsFor_64 rfl wl_X9_164 rfl (by decide) rfl (mg_30 _ _) ?_
        refine w_top (nI W) h30 ?_
        refine w_imul (nx := 68) C (nI (10 * W)) dX9_waitsFor_67 rfl (pk_mul _ _) ?_
        refine w_iload_n (nx := 69) C 3 dX9_waitsFor_68 rfl rfl rfl ?_
        refine w_iadd (nx := 70) C (nI (10 * W + k)) dX9_waitsFor_69 rfl (nI_add _ _) ?_
        refine w_aload_n (nx := 71) C 0 dX9_waitsFor_70 rfl rfl rfl ?_
        refine w_getM (nx := 74) C (.ref (a 21)) 0 21 dX9_waitsFor_71 rfl wl_X9_36 rfl (by decide) rfl (mg_21 _ _) ?_
        refine w_iload_n (nx := 75) C 3 dX9_waitsFor_74 rfl rfl rfl ?_
        refine w_iald (nx := 76) C (nI (ch.getD k 0)) 1 k dX9_waitsFor_75 rfl rfl (by decide) rfl (by omega) (hp k (by omega)) ?_
        refine w_iast (nx := 77) (ws2 := [(a 0, mO a v), (a 21, aI (kG κ) 12 f21), (a 23, aI (kG κ) 12 f23), (a 24, aI (kG κ) 12 f24), (a 31, aI (kG κ) 1300 (upd f31 W (nI j))), (a 32, aI (kG κ) 1300 (upd f32 W (nI t))), (a 33, aI (kG κ) 1300 (upd f33 W (nI ky))), (a 34, aI (kG κ) 1300 (upd f34 W (nI d))), (a 35, aI (kG κ) 13000 (upd g35 (10 * W + k) (nI (ch.getD k 0))))]) C 8 (10 * W + k) dX9_waitsFor_76 rfl rfl (by decide) rfl (by omega) rfl ?_
        refine w_iinc (nx := 80) (lo2 := [(3, .int (nI (k + 1))), (0, .ref (a 0)), (1, .int (nI j)), (2, .int (nI d))]) C (nI (k + 1)) 3 dX9_waitsFor_77 rfl rfl (nI_add _ _) (by decide) rfl ?_
        refine w_goto (nx := 52) C dX9_waitsFor_80 rfl ?_
        refine ww_lo [1, 2, 3, 0] (lo' := [(0, .ref (a 0)), (1, .int (nI j)), (2, .int (nI d)), (3, .int (nI (k + 1)))]) rfl ?_
        exact ih9_52 (upd g35 (10 * W + k) (nI (ch.getD k 0))) (k + 1) (by first | assumption | omega) (fun q hq => (Nat.lt_or_ge q k).elim (fun z => (upd_n (by omega)).trans (e1 q z)) (fun z => by have e9 : q = k := (by omega); subst e9; exact upd_e rfl)) (fun q hq => (upd_n (by omega)).trans (e2 q hq)) (by omega)
  refine ww_lo [1, 2, 3, 0] (lo' := [(0, .ref (a 0)), (1, .int (nI j)), (2, .int (nI d)), (3, .int (nI 0))]) rfl ?_
  exact LP_1 _ f35 0 (Nat.zero_le _) (fun q hq => absurd hq (Nat.not_lt_zero _)) (fun _ _ => rfl) (Nat.lt_succ_self _)
set_option maxHeartbeats 4000000 in
set_option maxRecDepth 100000 in
theorem c_X9_isDone (l : Launch) (G : GG) (a : Nat → Nat) (v : Nat → Int32) (f1 : Nat → Int32) (f21 : Nat → Int32) (f22 : Nat → Int32) (f23 : Nat → Int32) (f24 : Nat → Int32) (f25 : Nat → Int32) (f26 : Nat → Int32) (f36 : Nat → Int32) (τ : TB) (J : JR) (d : Nat) (kd : Nat) (t : Nat) (ky : Nat) (nm : Nat) (w : Nat) (ch : List Nat) (hT : rMT f1 τ) (hw : wfT τ) (h13 : v 13 = nI J.1) (hJ : J.1 < 100) (hd : d < 10) (h22 : f22 d = nI kd) (h23 : f23 d = nI t) (h24 : f24 d = nI ky) (h25 : f25 d = nI nm) (h26 : f26 d = nI w) (hk : kd < 3) (ht : t < 4) (hy : ky < 100) (hn : nm < 1000) (hg : wgt τ kd t ky nm = some w) (hc : ch.length = d) (hp : rCh f21 ch) : MT l G yX9_isDone cX9_isDone 5 none 3 0 0 [.ref (a 0), .int (nI d)] [(a 0, mO a v), (a 1, aI G 800 f1), (a 21, aI G 12 f21), (a 22, aI G 12 f22), (a 23, aI G 12 f23), (a 24, aI G 12 f24), (a 25, aI G 12 f25), (a 26, aI G 12 f26), (a 36, aI G 606 f36)] (fun v9 ws9 => ∃ (g1 : Nat → Int32), v9 = none ∧ ws9 = [(a 0, mO a (upd v 13 (nI (J.1 + 1)))), (a 1, aI G 800 g1), (a 21, aI G 12 f21), (a 22, aI G 12 f22), (a 23, aI G 12 f23), (a 24, aI G 12 f24), (a 25, aI G 12 f25), (a 26, aI G 12 f26), (a 36, aI G 606 (upd (upd (upd (upd (upd (upd f36 (6 * J.1) (jrow kd t ky w ch 0)) (6 * J.1 + 1) (jrow kd t ky w ch 1)) (6 * J.1 + 2) (jrow kd t ky w ch 2)) (6 * J.1 + 3) (jrow kd t ky w ch 3)) (6 * J.1 + 4) (jrow kd t ky w ch 4)) (6 * J.1 + 5) (jrow kd t ky w ch 5)))] ∧ rMT g1 (appT τ kd t ky w) ∧ sMO f1 g1) := by
  refine MT.of RX9 [(0, .ref (a 0)), (1, .int (nI d))] (by decide +kernel) rfl rfl (Nat.le_of_ble_eq_true rfl) (fun κ C E hl9 hG9 hnm9 => ?_)
  subst hl9; subst hG9
  have hz := (hw t ht).1
  refine w_aload_n (nx := 1) C 0 dX9_isDone_0 rfl rfl rfl ?_
  refine w_getM (nx := 4) C (.ref (a 23)) 0 23 dX9_isDone_1 rfl wl_X9_42 rfl (by decide) rfl (mg_23 _ _) ?_
  refine w_iload_n (nx := 5) C 1 dX9_isDone_4 rfl rfl rfl ?_
  refine w_iald (nx := 6) C (nI t) 4 d dX9_isDone_5 rfl rfl (by decide) rfl (by omega) h23 ?_
  refine w_istore_n (nx := 7) (lo2 := [(2, .int (nI t)), (0, .ref (a 0)), (1, .int (nI d))]) C dX9_isDone_6 rfl rfl (by decide) rfl ?_
  refine w_aload_n (nx := 8) C 1 dX9_isDone_7 rfl rfl rfl ?_
  refine w_getM (nx := 11) C (.ref (a 24)) 0 24 dX9_isDone_8 rfl wl_X9_45 rfl (by decide) rfl (mg_24 _ _) ?_
  refine w_iload_n (nx := 12) C 2 dX9_isDone_11 rfl rfl rfl ?_
  refine w_iald (nx := 13) C (nI ky) 5 d dX9_isDone_12 rfl rfl (by decide) rfl (by omega) h24 ?_
  refine w_istore_n (nx := 14) (lo2 := [(3, .int (nI ky)), (2, .int (nI t)), (0, .ref (a 0)), (1, .int (nI d))]) C dX9_isDone_13 rfl rfl (by decide) rfl ?_
  refine w_aload_n (nx := 15) C 2 dX9_isDone_14 rfl rfl rfl ?_
  refine w_getM (nx := 18) C (.ref (a 22)) 0 22 dX9_isDone_15 rfl wl_X9_39 rfl (by decide) rfl (mg_22 _ _) ?_
  refine w_iload_n (nx := 19) C 3 dX9_isDone_18 rfl rfl rfl ?_
  refine w_iald (nx := 20) C (nI kd) 3 d dX9_isDone_19 rfl rfl (by decide) rfl (by omega) h22 ?_
  refine n_if_ne (tg := 38) (nx := 23) C dX9_isDone_20 rfl rfl (by omega) (fun h_1 => ?_) (fun h_1 => ?_)
  · have hk0 : ¬ kd = 0 := by omega
    obtain ⟨hw1, hw2, hw3⟩ := wgt_n hk0 hg
    refine w_aload_n (nx := 39) C 2 dX9_isDone_38 rfl rfl rfl ?_
    refine w_getM (nx := 42) C (.ref (a 22)) 0 22 dX9_isDone_39 rfl wl_X9_39 rfl (by decide) rfl (mg_22 _ _) ?_
    refine w_iload_n (nx := 43) C 3 dX9_isDone_42 rfl rfl rfl ?_
    refine w_iald (nx := 44) C (nI kd) 3 d dX9_isDone_43 rfl rfl (by decide) rfl (by omega) h22 ?_
    refine w_iconst (nx := 45) C (nI 1) dX9_isDone_44 rfl (by decide) ?_
    refine n_icmp_ne (tg := 77) (nx := 48) C dX9_isDone_45 rfl rfl (by omega) (by omega) (fun h_2 => ?_) (fun h_2 => ?_)
    · have hk1 : ¬ kd = 1 := by omega
      refine w_aload_n (nx := 78) C 2 dX9_isDone_77 rfl rfl rfl ?_
      refine w_iload_n (nx := 79) C 1 dX9_isDone_78 rfl rfl rfl ?_
      refine w_aload_n (nx := 80) C 2 dX9_isDone_79 rfl rfl rfl ?_
      refine w_iload_n (nx := 81) C 1 dX9_isDone_80 rfl rfl rfl ?_
      refine w_iload_n (nx := 82) C 0 dX9_isDone_81 rfl rfl rfl ?_
      refine w_callV (nx := 85) (wr := [(a 21, aI (kG κ) 12 f21), (a 22, aI (kG κ) 12 f22), (a 23, aI (kG κ) 12 f23), (a 24, aI (kG κ) 12 f24), (a 25, aI (kG κ) 12 f25), (a 26, aI (kG κ) 12 f26), (a 36, aI (kG κ) 606 f36)]) (rest := [.int (nI t), .ref (a 0)]) C mi_X9_placeOf (c_X9_placeOf _ _ a v f1 τ t ky (by first | assumption | omega) (by first | assumption | omega) (by first | assumption | omega) (by first | assumption | omega)) 0 dX9_isDone_82 rfl wl_X9_108 rfl rfl rfl (pm_sel [0, 1, 2, 3, 4, 5, 6, 7, 8] 9 (by decide +kernel) rfl rfl) rfl rfl (Nat.le_of_ble_eq_true rfl) (Nat.le_of_ble_eq_true rfl) (Nat.le_of_ble_eq_true rfl) (Nat.zero_le _) (Nat.zero_le _) (fun v9 w9 R_3 => ?_)
      rcases R_3 with ⟨rfl, rfl, hpl⟩ | ⟨rfl, rfl, hpl⟩
      · show WW κ 0 0 [(a 0, mO a v), (a 1, aI (kG κ) 800 f1), (a 21, aI (kG κ) 12 f21), (a 22, aI (kG κ) 12 f22), (a 23, aI (kG κ) 12 f23), (a 24, aI (kG κ) 12 f24), (a 25, aI (kG κ) 12 f25), (a 26, aI (kG κ) 12 f26), (a 36, aI (kG κ) 606 f36)] 85 [(3, .int (nI ky)), (2, .int (nI t)), (0, .ref (a 0)), (1, .int (nI d))] [.int (nI (plT τ t ky)), .int (nI t), .ref (a 0)]
        refine w_callV (nx := 88) (wr := [(a 21, aI (kG κ) 12 f21), (a 22, aI (kG κ) 12 f22), (a 23, aI (kG κ) 12 f23), (a 24, aI (kG κ) 12 f24), (a 25, aI (kG κ) 12 f25), (a 26, aI (kG κ) 12 f26), (a 36, aI (kG κ) 606 f36)]) (rest := []) C mi_X9_drops (c_X9_drops _ _ a v f1 τ t (plT τ t ky) (by first | assumption | omega) (by first | assumption | omega) (by first | assumption | omega) (by first | assumption | omega)) 0 dX9_isDone_85 rfl wl_X9_157 rfl rfl rfl (pm_sel [0, 1, 2, 3, 4, 5, 6, 7, 8] 9 (by decide +kernel) rfl rfl) rfl rfl (Nat.le_of_ble_eq_true rfl) (Nat.le_of_ble_eq_true rfl) (Nat.le_of_ble_eq_true rfl) (Nat.zero_le _) (Nat.zero_le _) (fun v9 w9 R_4 => ?_)
        obtain ⟨gA, rfl, rfl, hTA, hOA⟩ := R_4
        show WW κ 0 0 [(a 0, mO a v), (a 1, aI (kG κ) 800 gA), (a 21, aI (kG κ) 12 f21), (a 22, aI (kG κ) 12 f22), (a 23, aI (kG κ) 12 f23), (a 24, aI (kG κ) 12 f24), (a 25, aI (kG κ) 12 f25), (a 26, aI (kG κ) 12 f26), (a 36, aI (kG κ) 606 f36)] 88 [(3, .int (nI ky)), (2, .int (nI t)), (0, .ref (a 0)), (1, .int (nI d))] []
        have LP_5 : ∀ (g1 : Nat → Int32), (rMT g1 (appT τ kd t ky w)) → (sMO f1 g1) → WW κ 0 0 [(a 0, mO a v), (a 1, aI (kG κ) 800 g1), (a 21, aI (kG κ) 12 f21), (a 22, aI (kG κ) 12 f22), (a 23, aI (kG κ) 12 f23), (a 24, aI (kG κ) 12 f24), (a 25, aI (kG κ) 12 f25), (a 26, aI (kG κ) 12 f26), (a 36, aI (kG κ) 606 f36)] 88 [(0, .ref (a 0)), (1, .int (nI d)), (2, .int (nI t)), (3, .int (nI ky))] [] := by
          intro g1 hT2 hO2
          refine w_bipush (nx := 90) C (nI 6) dX9_isDone_88 rfl (by decide) ?_
          refine w_aload_n (nx := 91) C 0 dX9_isDone_90 rfl rfl rfl ?_
          refine w_getM (nx := 94) C (.int (v 13)) 0 13 dX9_isDone_91 rfl wl_X9_161 rfl (by decide) rfl (mg_13 _ _) ?_
          refine w_top (nI J.1) h13 ?_
          refine w_imul (nx := 95) C (nI (6 * J.1)) dX9_isDone_94 rfl (pk_mul _ _) ?_
          refine w_istore (nx := 97) (lo2 := [(4, .int (nI (6 * J.1))), (0, .ref (a 0)), (1, .int (nI d)), (2, .int (nI t)), (3, .int (nI ky))]) C dX9_isDone_95 rfl (by decide) rfl ?_
          refine w_aload_n (nx := 98) C 1 dX9_isDone_97 rfl rfl rfl ?_
          refine w_getM (nx := 101) C (.ref (a 36)) 0 36 dX9_isDone_98 rfl wl_X9_78 rfl (by decide) rfl (mg_36 _ _) ?_
          refine w_iload (nx := 103) C 0 dX9_isDone_101 rfl rfl ?_
          refine w_aload_n (nx := 104) C 1 dX9_isDone_103 rfl rfl rfl ?_
          refine w_getM (nx := 107) C (.ref (a 22)) 0 22 dX9_isDone_104 rfl wl_X9_39 rfl (by decide) rfl (mg_22 _ _) ?_
          refine w_iload_n (nx := 108) C 2 dX9_isDone_107 rfl rfl rfl ?_
          refine w_iald (nx := 109) C (nI kd) 3 d dX9_isDone_108 rfl rfl (by decide) rfl (by omega) h22 ?_
          refine w_top (jrow kd t ky w ch 0) (rfl) ?_
          refine w_iast (nx := 110) (ws2 := [(a 0, mO a v), (a 1, aI (kG κ) 800 g1), (a 21, aI (kG κ) 12 f21), (a 22, aI (kG κ) 12 f22), (a 23, aI (kG κ) 12 f23), (a 24, aI (kG κ) 12 f24), (a 25, aI (kG κ) 12 f25), (a 26, aI (kG κ) 12 f26), (a 36, aI (kG κ) 606 (upd f36 (6 * J.1) (jrow kd t ky w ch 0)))]) C 8 (6 * J.1) dX9_isDone_109 rfl rfl (by decide) rfl (by omega) rfl ?_
          refine w_aload_n (nx := 111) C 1 dX9_isDone_110 rfl rfl rfl ?_
          refine w_getM (nx := 114) C (.ref (a 36)) 0 36 dX9_isDone_111 rfl wl_X9_78 rfl (by decide) rfl (mg_36 _ _) ?_
          refine w_iload (nx := 116) C 0 dX9_isDone_114 rfl rfl ?_
          refine w_iconst (nx := 117) C (nI 1) dX9_isDone_116 rfl (by decide) ?_
          refine w_iadd (nx := 118) C (nI (6 * J.1 + 1)) dX9_isDone_117 rfl (nI_add _ _) ?_
          refine w_iload_n (nx := 119) C 3 dX9_isDone_118 rfl rfl rfl ?_
          refine w_top (jrow kd t ky w ch 1) (rfl) ?_
          refine w_iast (nx := 120) (ws2 := [(a 0, mO a v), (a 1, aI (kG κ) 800 g1), (a 21, aI (kG κ) 12 f21), (a 22, aI (kG κ) 12 f22), (a 23, aI (kG κ) 12 f23), (a 24, aI (kG κ) 12 f24), (a 25, aI (kG κ) 12 f25), (a 26, aI (kG κ) 12 f26), (a 36, aI (kG κ) 606 (upd (upd f36 (6 * J.1) (jrow kd t ky w ch 0)) (6 * J.1 + 1) (jrow kd t ky w ch 1)))]) C 8 (6 * J.1 + 1) dX9_isDone_119 rfl rfl (by decide) rfl (by omega) rfl ?_
          refine w_aload_n (nx := 121) C 1 dX9_isDone_120 rfl rfl rfl ?_
          refine w_getM (nx := 124) C (.ref (a 36)) 0 36 dX9_isDone_121 rfl wl_X9_78 rfl (by decide) rfl (mg_36 _ _) ?_
          refine w_iload (nx := 126) C 0 dX9_isDone_124 rfl rfl ?_
          refine w_iconst (nx := 127) C (nI 2) dX9_isDone_126 rfl (by decide) ?_
          refine w_iadd (nx := 128) C (nI (6 * J.1 + 2)) dX9_isDone_127 rfl (nI_add _ _) ?_
          refine w_iload_n (nx := 129) C 4 dX9_isDone_128 rfl rfl rfl ?_
          refine w_top (jrow kd t ky w ch 2) (rfl) ?_
          refine w_iast (nx := 130) (ws2 := [(a 0, mO a v), (a 1, aI (kG κ) 800 g1), (a 21, aI (kG κ) 12 f21), (a 22, aI (kG κ) 12 f22), (a 23, aI (kG κ) 12 f23), (a 24, aI (kG κ) 12 f24), (a 25, aI (kG κ) 12 f25), (a 26, aI (kG κ) 12 f26), (a 36, aI (kG κ) 606 (upd (upd (upd f36 (6 * J.1) (jrow kd t ky w ch 0)) (6 * J.1 + 1) (jrow kd t ky w ch 1)) (6 * J.1 + 2) (jrow kd t ky w ch 2)))]) C 8 (6 * J.1 + 2) dX9_isDone_129 rfl rfl (by decide) rfl (by omega) rfl ?_
          refine w_aload_n (nx := 131) C 1 dX9_isDone_130 rfl rfl rfl ?_
          refine w_getM (nx := 134) C (.ref (a 36)) 0 36 dX9_isDone_131 rfl wl_X9_78 rfl (by decide) rfl (mg_36 _ _) ?_
          refine w_iload (nx := 136) C 0 dX9_isDone_134 rfl rfl ?_
          refine w_iconst (nx := 137) C (nI 3) dX9_isDone_136 rfl (by decide) ?_
          refine w_iadd (nx := 138) C (nI (6 * J.1 + 3)) dX9_isDone_137 rfl (nI_add _ _) ?_
          refine w_aload_n (nx := 139) C 1 dX9_isDone_138 rfl rfl rfl ?_
          refine w_getM (nx := 142) C (.ref (a 26)) 0 26 dX9_isDone_139 rfl wl_X9_51 rfl (by decide) rfl (mg_26 _ _) ?_
          refine w_iload_n (nx := 143) C 2 dX9_isDone_142 rfl rfl rfl ?_
          refine w_iald (nx := 144) C (nI w) 7 d dX9_isDone_143 rfl rfl (by decide) rfl (by omega) h26 ?_
          refine w_top (jrow kd t ky w ch 3) (rfl) ?_
          refine w_iast (nx := 145) (ws2 := [(a 0, mO a v), (a 1, aI (kG κ) 800 g1), (a 21, aI (kG κ) 12 f21), (a 22, aI (kG κ) 12 f22), (a 23, aI (kG κ) 12 f23), (a 24, aI (kG κ) 12 f24), (a 25, aI (kG κ) 12 f25), (a 26, aI (kG κ) 12 f26), (a 36, aI (kG κ) 606 (upd (upd (upd (upd f36 (6 * J.1) (jrow kd t ky w ch 0)) (6 * J.1 + 1) (jrow kd t ky w ch 1)) (6 * J.1 + 2) (jrow kd t ky w ch 2)) (6 * J.1 + 3) (jrow kd t ky w ch 3)))]) C 8 (6 * J.1 + 3) dX9_isDone_144 rfl rfl (by decide) rfl (by omega) rfl ?_
          refine w_aload_n (nx := 146) C 1 dX9_isDone_145 rfl rfl rfl ?_
          refine w_getM (nx := 149) C (.ref (a 36)) 0 36 dX9_isDone_146 rfl wl_X9_78 rfl (by decide) rfl (mg_36 _ _) ?_
          refine w_iload (nx := 151) C 0 dX9_isDone_149 rfl rfl ?_
          refine w_iconst (nx := 152) C (nI 4) dX9_isDone_151 rfl (by decide) ?_
          refine w_iadd (nx := 153) C (nI (6 * J.1 + 4)) dX9_isDone_152 rfl (nI_add _ _) ?_
          refine w_iload_n (nx := 154) C 2 dX9_isDone_153 rfl rfl rfl ?_
          refine w_top (jrow kd t ky w ch 4) (congrArg nI hc.symm) ?_
          refine w_iast (nx := 155) (ws2 := [(a 0, mO a v), (a 1, aI (kG κ) 800 g1), (a 21, aI (kG κ) 12 f21), (a 22, aI (kG κ) 12 f22), (a 23, aI (kG κ) 12 f23), (a 24, aI (kG κ) 12 f24), (a 25, aI (kG κ) 12 f25), (a 26, aI (kG κ) 12 f26), (a 36, aI (kG κ) 606 (upd (upd (upd (upd (upd f36 (6 * J.1) (jrow kd t ky w ch 0)) (6 * J.1 + 1) (jrow kd t ky w ch 1)) (6 * J.1 + 2) (jrow kd t ky w ch 2)) (6 * J.1 + 3) (jrow kd t ky w ch 3)) (6 * J.1 + 4) (jrow kd t ky w ch 4)))]) C 8 (6 * J.1 + 4) dX9_isDone_154 rfl rfl (by decide) rfl (by omega) rfl ?_
          refine w_aload_n (nx := 156) C 1 dX9_isDone_155 rfl rfl rfl ?_
          refine w_getM (nx := 159) C (.ref (a 36)) 0 36 dX9_isDone_156 rfl wl_X9_78 rfl (by decide) rfl (mg_36 _ _) ?_
          refine w_iload (nx := 161) C 0 dX9_isDone_159 rfl rfl ?_
          refine w_iconst (nx := 162) C (nI 5) dX9_isDone_161 rfl (by decide) ?_
          refine w_iadd (nx := 163) C (nI (6 * J.1 + 5)) dX9_isDone_162 rfl (nI_add _ _) ?_
          refine w_iload_n (nx := 164) C 2 dX9_isDone_163 rfl rfl rfl ?_
          refine n_if_ne (tg := 172) (nx := 167) C dX9_isDone_164 rfl rfl (by omega) (fun h_6 => ?_) (fun h_6 => ?_)
          · refine w_aload_n (nx := 173) C 1 dX9_isDone_172 rfl rfl rfl ?_
            refine w_getM (nx := 176) C (.ref (a 21)) 0 21 dX9_isDone_173 rfl wl_X9_36 rfl (by decide) rfl (mg_21 _ _) ?_
            refine w_iload_n (nx := 177) C 2 dX9_isDone_176 rfl rfl rfl ?_
            refine w_iconst (nx := 178) C (nI 1) dX9_isDone_177 rfl (by decide) ?_
            refine w_isub (nx := 179) C (nI (d - 1)) dX9_isDone_178 rfl (pk_sub (by omega)) ?_
            refine w_iald (nx := 180) C (f21 (d - 1)) 2 (d - 1) dX9_isDone_179 rfl rfl (by decide) rfl (by omega) rfl ?_
            refine w_top (jrow kd t ky w ch 5) ((by show f21 (d - 1) = mkr ch; rw [mkr_last (by omega), hc]; exact hp _ (by omega))) ?_
            refine w_iast (nx := 181) (ws2 := [(a 0, mO a v), (a 1, aI (kG κ) 800 g1), (a 21, aI (kG κ) 12 f21), (a 22, aI (kG κ) 12 f22), (a 23, aI (kG κ) 12 f23), (a 24, aI (kG κ) 12 f24), (a 25, aI (kG κ) 12 f25), (a 26, aI (kG κ) 12 f26), (a 36, aI (kG κ) 606 (upd (upd (upd (upd (upd (upd f36 (6 * J.1) (jrow kd t ky w ch 0)) (6 * J.1 + 1) (jrow kd t ky w ch 1)) (6 * J.1 + 2) (jrow kd t ky w ch 2)) (6 * J.1 + 3) (jrow kd t ky w ch 3)) (6 * J.1 + 4) (jrow kd t ky w ch 4)) (6 * J.1 + 5) (jrow kd t ky w ch 5)))]) C 8 (6 * J.1 + 5) dX9_isDone_180 rfl rfl (by decide) rfl (by omega) rfl ?_
            refine w_aload_n (nx := 182) C 1 dX9_isDone_181 rfl rfl rfl ?_
            refine w_dup (nx := 183) C dX9_isDone_182 rfl rfl ?_
            refine w_getM (nx := 186) C (.int (v 13)) 0 13 dX9_isDone_183 rfl wl_X9_161 rfl (by decide) rfl (mg_13 _ _) ?_
            refine w_top (nI J.1) h13 ?_
            refine w_iconst (nx := 187) C (nI 1) dX9_isDone_186 rfl (by decide) ?_
            refine w_iadd (nx := 188) C (nI (J.1 + 1)) dX9_isDone_187 rfl (nI_add _ _) ?_
            refine w_putM (nx := 191) (ws2 := [(a 0, mO a (upd v 13 (nI (J.1 + 1)))), (a 1, aI (kG κ) 800 g1), (a 21, aI (kG κ) 12 f21), (a 22, aI (kG κ) 12 f22), (a 23, aI (kG κ) 12 f23), (a 24, aI (kG κ) 12 f24), (a 25, aI (kG κ) 12 f25), (a 26, aI (kG κ) 12 f26), (a 36, aI (kG κ) 606 (upd (upd (upd (upd (upd (upd f36 (6 * J.1) (jrow kd t ky w ch 0)) (6 * J.1 + 1) (jrow kd t ky w ch 1)) (6 * J.1 + 2) (jrow kd t ky w ch 2)) (6 * J.1 + 3) (jrow kd t ky w ch 3)) (6 * J.1 + 4) (jrow kd t ky w ch 4)) (6 * J.1 + 5) (jrow kd t ky w ch 5)))]) C 0 13 dX9_isDone_188 rfl wl_X9_161 rfl (by decide) rfl rfl rfl (ms_13 _ _ _) rfl ?_
            exact w_vret C E dX9_isDone_191 rfl (Nat.le_refl _) (Nat.le_refl _) ⟨_, rfl, rfl, (hT2), (hO2)⟩
          · refine w_bipush (nx := 169) C (-6) dX9_isDone_167 rfl (by decide) ?_
            refine w_goto (nx := 180) C dX9_isDone_169 rfl ?_
            refine w_top (jrow kd t ky w ch 5) ((by have e9 : ch = [] := List.length_eq_zero_iff.mp (by omega); subst e9; rfl)) ?_
            refine w_iast (nx := 181) (ws2 := [(a 0, mO a v), (a 1, aI (kG κ) 800 g1), (a 21, aI (kG κ) 12 f21), (a 22, aI (kG κ) 12 f22), (a 23, aI (kG κ) 12 f23), (a 24, aI (kG κ) 12 f24), (a 25, aI (kG κ) 12 f25), (a 26, aI (kG κ) 12 f26), (a 36, aI (kG κ) 606 (upd (upd (upd (upd (upd (upd f36 (6 * J.1) (jrow kd t ky w ch 0)) (6 * J.1 + 1) (jrow kd t ky w ch 1)) (6 * J.1 + 2) (jrow kd t ky w ch 2)) (6 * J.1 + 3) (jrow kd t ky w ch 3)) (6 * J.1 + 4) (jrow kd t ky w ch 4)) (6 * J.1 + 5) (jrow kd t ky w ch 5)))]) C 8 (6 * J.1 + 5) dX9_isDone_180 rfl rfl (by decide) rfl (by omega) rfl ?_
            refine w_aload_n (nx := 182) C 1 dX9_isDone_181 rfl rfl rfl ?_
            refine w_dup (nx := 183) C dX9_isDone_182 rfl rfl ?_
            refine w_getM (nx := 186) C (.int (v 13)) 0 13 dX9_isDone_183 rfl wl_X9_161 rfl (by decide) rfl (mg_13 _ _) ?_
            refine w_top (nI J.1) h13 ?_
            refine w_iconst (nx := 187) C (nI 1) dX9_isDone_186 rfl (by decide) ?_
            refine w_iadd (nx := 188) C (nI (J.1 + 1)) dX9_isDone_187 rfl (nI_add _ _) ?_
            refine w_putM (nx := 191) (ws2 := [(a 0, mO a (upd v 13 (nI (J.1 + 1)))), (a 1, aI (kG κ) 800 g1), (a 21, aI (kG κ) 12 f21), (a 22, aI (kG κ) 12 f22), (a 23, aI (kG κ) 12 f23), (a 24, aI (kG κ) 12 f24), (a 25, aI (kG κ) 12 f25), (a 26, aI (kG κ) 12 f26), (a 36, aI (kG κ) 606 (upd (upd (upd (upd (upd (upd f36 (6 * J.1) (jrow kd t ky w ch 0)) (6 * J.1 + 1) (jrow kd t ky w ch 1)) (6 * J.1 + 2) (jrow kd t ky w ch 2)) (6 * J.1 + 3) (jrow kd t ky w ch 3)) (6 * J.1 + 4) (jrow kd t ky w ch 4)) (6 * J.1 + 5) (jrow kd t ky w ch 5)))]) C 0 13 dX9_isDone_188 rfl wl_X9_161 rfl (by decide) rfl rfl rfl (ms_13 _ _ _) rfl ?_
            exact w_vret C E dX9_isDone_191 rfl (Nat.le_refl _) (Nat.le_refl _) ⟨_, rfl, rfl, (hT2), (hO2)⟩
        refine ww_lo [2, 3, 1, 0] (lo' := [(0, .ref (a 0)), (1, .int (nI d)), (2, .int (nI t)), (3, .int (nI ky))]) rfl ?_
        exact LP_5 gA (by rw [← app_2 hk0 hk1]; exact hTA) (hOA)
      · show WW κ 0 0 [(a 0, mO a v), (a 1, aI (kG κ) 800 f1), (a 21, aI (kG κ) 12 f21), (a 22, aI (kG κ) 12 f22), (a 23, aI (kG κ) 12 f23), (a 24, aI (kG κ) 12 f24), (a 25, aI (kG κ) 12 f25), (a 26, aI (kG κ) 12 f26), (a 36, aI (kG κ) 606 f36)] 85 [(3, .int (nI ky)), (2, .int (nI t)), (0, .ref (a 0)), (1, .int (nI d))] [.int (-6), .int (nI t), .ref (a 0)]
        exfalso; omega
    · have hk1 : kd = 1 := by omega
      have hw4 := hw3 (by omega)
      refine w_aload_n (nx := 49) C 2 dX9_isDone_48 rfl rfl rfl ?_
      refine w_getM (nx := 52) C (.ref (a 1)) 0 1 dX9_isDone_49 rfl wl_X9_7 rfl (by decide) rfl (mg_1 _ _) ?_
      refine w_iload_n (nx := 53) C 1 dX9_isDone_52 rfl rfl rfl ?_
      refine w_aload_n (nx := 54) C 2 dX9_isDone_53 rfl rfl rfl ?_
      refine w_iload_n (nx := 55) C 1 dX9_isDone_54 rfl rfl rfl ?_
      refine w_iload_n (nx := 56) C 0 dX9_isDone_55 rfl rfl rfl ?_
      refine w_callV (nx := 59) (wr := [(a 21, aI (kG κ) 12 f21), (a 22, aI (kG κ) 12 f22), (a 23, aI (kG κ) 12 f23), (a 24, aI (kG κ) 12 f24), (a 25, aI (kG κ) 12 f25), (a 26, aI (kG κ) 12 f26), (a 36, aI (kG κ) 606 f36)]) (rest := [.int (nI t), .ref (a 1)]) C mi_X9_placeOf (c_X9_placeOf _ _ a v f1 τ t ky (by first | assumption | omega) (by first | assumption | omega) (by first | assumption | omega) (by first | assumption | omega)) 0 dX9_isDone_56 rfl wl_X9_108 rfl rfl rfl (pm_sel [0, 1, 2, 3, 4, 5, 6, 7, 8] 9 (by decide +kernel) rfl rfl) rfl rfl (Nat.le_of_ble_eq_true rfl) (Nat.le_of_ble_eq_true rfl) (Nat.le_of_ble_eq_true rfl) (Nat.zero_le _) (Nat.zero_le _) (fun v9 w9 R_7 => ?_)
      rcases R_7 with ⟨rfl, rfl, hpl⟩ | ⟨rfl, rfl, hpl⟩
      · show WW κ 0 0 [(a 0, mO a v), (a 1, aI (kG κ) 800 f1), (a 21, aI (kG κ) 12 f21), (a 22, aI (kG κ) 12 f22), (a 23, aI (kG κ) 12 f23), (a 24, aI (kG κ) 12 f24), (a 25, aI (kG κ) 12 f25), (a 26, aI (kG κ) 12 f26), (a 36, aI (kG κ) 606 f36)] 59 [(3, .int (nI ky)), (2, .int (nI t)), (0, .ref (a 0)), (1, .int (nI d))] [.int (nI (plT τ t ky)), .int (nI t), .ref (a 1)]
        refine w_callS (nx := 62) (wr := [(a 0, mO a v), (a 1, aI (kG κ) 800 f1), (a 21, aI (kG κ) 12 f21), (a 22, aI (kG κ) 12 f22), (a 23, aI (kG κ) 12 f23), (a 24, aI (kG κ) 12 f24), (a 25, aI (kG κ) 12 f25), (a 26, aI (kG κ) 12 f26), (a 36, aI (kG κ) 606 f36)]) (rest := [.ref (a 1)]) C ms_X9_rowAt (c_X9_rowAt _ _ t (plT τ t ky)) dX9_isDone_59 rfl wl_X9_104 rfl (pm_sel [0, 1, 2, 3, 4, 5, 6, 7, 8] 9 (by decide +kernel) rfl rfl) rfl rfl (Nat.le_of_ble_eq_true rfl) (Nat.le_of_ble_eq_true rfl) (Nat.le_of_ble_eq_true rfl) (Nat.zero_le _) (Nat.zero_le _) (fun v9 w9 R_8 => ?_)
        obtain ⟨rfl, rfl⟩ := R_8
        show WW κ 0 0 [(a 0, mO a v), (a 1, aI (kG κ) 800 f1), (a 21, aI (kG κ) 12 f21), (a 22, aI (kG κ) 12 f22), (a 23, aI (kG κ) 12 f23), (a 24, aI (kG κ) 12 f24), (a 25, aI (kG κ) 12 f25), (a 26, aI (kG κ) 12 f26), (a 36, aI (kG κ) 606 f36)] 62 [(3, .int (nI ky)), (2, .int (nI t)), (0, .ref (a 0)), (1, .int (nI d))] [.int (nI (2 + 25 * t + 1 + 2 * (plT τ t ky))), .ref (a 1)]
        refine w_iconst (nx := 63) C (nI 1) dX9_isDone_62 rfl (by decide) ?_
        refine w_iadd (nx := 64) C (nI (2 + 25 * t + 1 + 2 * (plT τ t ky) + 1)) dX9_isDone_63 rfl (nI_add _ _) ?_
        refine w_dup2 (nx := 65) C dX9_isDone_64 rfl rfl rfl ?_
        refine w_iald (nx := 66) C (nI (nT τ t (plT τ t ky))) 1 (2 + 25 * t + 1 + 2 * (plT τ t ky) + 1) dX9_isDone_65 rfl rfl (by decide) rfl (by omega) (rMT_n hT ht (by assumption)) ?_
        refine w_aload_n (nx := 67) C 2 dX9_isDone_66 rfl rfl rfl ?_
        refine w_getM (nx := 70) C (.ref (a 25)) 0 25 dX9_isDone_67 rfl wl_X9_48 rfl (by decide) rfl (mg_25 _ _) ?_
        refine w_iload_n (nx := 71) C 3 dX9_isDone_70 rfl rfl rfl ?_
        refine w_iald (nx := 72) C (nI nm) 6 d dX9_isDone_71 rfl rfl (by decide) rfl (by omega) h25 ?_
        refine w_iadd (nx := 73) C (nI (nT τ t (plT τ t ky) + nm)) dX9_isDone_72 rfl (nI_add _ _) ?_
        refine w_iast (nx := 74) (ws2 := [(a 0, mO a v), (a 1, aI (kG κ) 800 (upd f1 (2 + 25 * t + 1 + 2 * (plT τ t ky) + 1) (nI (nT τ t (plT τ t ky) + nm)))), (a 21, aI (kG κ) 12 f21), (a 22, aI (kG κ) 12 f22), (a 23, aI (kG κ) 12 f23), (a 24, aI (kG κ) 12 f24), (a 25, aI (kG κ) 12 f25), (a 26, aI (kG κ) 12 f26), (a 36, aI (kG κ) 606 f36)]) C 1 (2 + 25 * t + 1 + 2 * (plT τ t ky) + 1) dX9_isDone_73 rfl rfl (by decide) rfl (by omega) rfl ?_
        refine w_goto (nx := 88) C dX9_isDone_74 rfl ?_
        have LP_9 : ∀ (g1 : Nat → Int32), (rMT g1 (appT τ kd t ky w)) → (sMO f1 g1) → WW κ 0 0 [(a 0, mO a v), (a 1, aI (kG κ) 800 g1), (a 21, aI (kG κ) 12 f21), (a 22, aI (kG κ) 12 f22), (a 23, aI (kG κ) 12 f23), (a 24, aI (kG κ) 12 f24), (a 25, aI (kG κ) 12 f25), (a 26, aI (kG κ) 12 f26), (a 36, aI (kG κ) 606 f36)] 88 [(0, .ref (a 0)), (1, .int (nI d)), (2, .int (nI t)), (3, .int (nI ky))] [] := by
          intro g1 hT2 hO2
          refine w_bipush (nx := 90) C (nI 6) dX9_isDone_88 rfl (by decide) ?_
          refine w_aload_n (nx := 91) C 0 dX9_isDone_90 rfl rfl rfl ?_
          refine w_getM (nx := 94) C (.int (v 13)) 0 13 dX9_isDone_91 rfl wl_X9_161 rfl (by decide) rfl (mg_13 _ _) ?_
          refine w_top (nI J.1) h13 ?_
          refine w_imul (nx := 95) C (nI (6 * J.1)) dX9_isDone_94 rfl (pk_mul _ _) ?_
          refine w_istore (nx := 97) (lo2 := [(4, .int (nI (6 * J.1))), (0, .ref (a 0)), (1, .int (nI d)), (2, .int (nI t)), (3, .int (nI ky))]) C dX9_isDone_95 rfl (by decide) rfl ?_
          refine w_aload_n (nx := 98) C 1 dX9_isDone_97 rfl rfl rfl ?_
          refine w_getM (nx := 101) C (.ref (a 36)) 0 36 dX9_isDone_98 rfl wl_X9_78 rfl (by decide) rfl (mg_36 _ _) ?_
          refine w_iload (nx := 103) C 0 dX9_isDone_101 rfl rfl ?_
          refine w_aload_n (nx := 104) C 1 dX9_isDone_103 rfl rfl rfl ?_
          refine w_getM (nx := 107) C (.ref (a 22)) 0 22 dX9_isDone_104 rfl wl_X9_39 rfl (by decide) rfl (mg_22 _ _) ?_
          refine w_iload_n (nx := 108) C 2 dX9_isDone_107 rfl rfl rfl ?_
          refine w_iald (nx := 109) C (nI kd) 3 d dX9_isDone_108 rfl rfl (by decide) rfl (by omega) h22 ?_
          refine w_top (jrow kd t ky w ch 0) (rfl) ?_
          refine w_iast (nx := 110) (ws2 := [(a 0, mO a v), (a 1, aI (kG κ) 800 g1), (a 21, aI (kG κ) 12 f21), (a 22, aI (kG κ) 12 f22), (a 23, aI (kG κ) 12 f23), (a 24, aI (kG κ) 12 f24), (a 25, aI (kG κ) 12 f25), (a 26, aI (kG κ) 12 f26), (a 36, aI (kG κ) 606 (upd f36 (6 * J.1) (jrow kd t ky w ch 0)))]) C 8 (6 * J.1) dX9_isDone_109 rfl rfl (by decide) rfl (by omega) rfl ?_
          refine w_aload_n (nx := 111) C 1 dX9_isDone_110 rfl rfl rfl ?_
          refine w_getM (nx := 114) C (.ref (a 36)) 0 36 dX9_isDone_111 rfl wl_X9_78 rfl (by decide) rfl (mg_36 _ _) ?_
          refine w_iload (nx := 116) C 0 dX9_isDone_114 rfl rfl ?_
          refine w_iconst (nx := 117) C (nI 1) dX9_isDone_116 rfl (by decide) ?_
          refine w_iadd (nx := 118) C (nI (6 * J.1 + 1)) dX9_isDone_117 rfl (nI_add _ _) ?_
          refine w_iload_n (nx := 119) C 3 dX9_isDone_118 rfl rfl rfl ?_
          refine w_top (jrow kd t ky w ch 1) (rfl) ?_
          refine w_iast (nx := 120) (ws2 := [(a 0, mO a v), (a 1, aI (kG κ) 800 g1), (a 21, aI (kG κ) 12 f21), (a 22, aI (kG κ) 12 f22), (a 23, aI (kG κ) 12 f23), (a 24, aI (kG κ) 12 f24), (a 25, aI (kG κ) 12 f25), (a 26, aI (kG κ) 12 f26), (a 36, aI (kG κ) 606 (upd (upd f36 (6 * J.1) (jrow kd t ky w ch 0)) (6 * J.1 + 1) (jrow kd t ky w ch 1)))]) C 8 (6 * J.1 + 1) dX9_isDone_119 rfl rfl (by decide) rfl (by omega) rfl ?_
          refine w_aload_n (nx := 121) C 1 dX9_isDone_120 rfl rfl rfl ?_
          refine w_getM (nx := 124) C (.ref (a 36)) 0 36 dX9_isDone_121 rfl wl_X9_78 rfl (by decide) rfl (mg_36 _ _) ?_
          refine w_iload (nx := 126) C 0 dX9_isDone_124 rfl rfl ?_
          refine w_iconst (nx := 127) C (nI 2) dX9_isDone_126 rfl (by decide) ?_
          refine w_iadd (nx := 128) C (nI (6 * J.1 + 2)) dX9_isDone_127 rfl (nI_add _ _) ?_
          refine w_iload_n (nx := 129) C 4 dX9_isDone_128 rfl rfl rfl ?_
          refine w_top (jrow kd t ky w ch 2) (rfl) ?_
          refine w_iast (nx := 130) (ws2 := [(a 0, mO a v), (a 1, aI (kG κ) 800 g1), (a 21, aI (kG κ) 12 f21), (a 22, aI (kG κ) 12 f22), (a 23, aI (kG κ) 12 f23), (a 24, aI (kG κ) 12 f24), (a 25, aI (kG κ) 12 f25), (a 26, aI (kG κ) 12 f26), (a 36, aI (kG κ) 606 (upd (upd (upd f36 (6 * J.1) (jrow kd t ky w ch 0)) (6 * J.1 + 1) (jrow kd t ky w ch 1)) (6 * J.1 + 2) (jrow kd t ky w ch 2)))]) C 8 (6 * J.1 + 2) dX9_isDone_129 rfl rfl (by decide) rfl (by omega) rfl ?_
          refine w_aload_n (nx := 131) C 1 dX9_isDone_130 rfl rfl rfl ?_
          refine w_getM (nx := 134) C (.ref (a 36)) 0 36 dX9_isDone_131 rfl wl_X9_78 rfl (by decide) rfl (mg_36 _ _) ?_
          refine w_iload (nx := 136) C 0 dX9_isDone_134 rfl rfl ?_
          refine w_iconst (nx := 137) C (nI 3) dX9_isDone_136 rfl (by decide) ?_
          refine w_iadd (nx := 138) C (nI (6 * J.1 + 3)) dX9_isDone_137 rfl (nI_add _ _) ?_
          refine w_aload_n (nx := 139) C 1 dX9_isDone_138 rfl rfl rfl ?_
          refine w_getM (nx := 142) C (.ref (a 26)) 0 26 dX9_isDone_139 rfl wl_X9_51 rfl (by decide) rfl (mg_26 _ _) ?_
          refine w_iload_n (nx := 143) C 2 dX9_isDone_142 rfl rfl rfl ?_
          refine w_iald (nx := 144) C (nI w) 7 d dX9_isDone_143 rfl rfl (by decide) rfl (by omega) h26 ?_
          refine w_top (jrow kd t ky w ch 3) (rfl) ?_
          refine w_iast (nx := 145) (ws2 := [(a 0, mO a v), (a 1, aI (kG κ) 800 g1), (a 21, aI (kG κ) 12 f21), (a 22, aI (kG κ) 12 f22), (a 23, aI (kG κ) 12 f23), (a 24, aI (kG κ) 12 f24), (a 25, aI (kG κ) 12 f25), (a 26, aI (kG κ) 12 f26), (a 36, aI (kG κ) 606 (upd (upd (upd (upd f36 (6 * J.1) (jrow kd t ky w ch 0)) (6 * J.1 + 1) (jrow kd t ky w ch 1)) (6 * J.1 + 2) (jrow kd t ky w ch 2)) (6 * J.1 + 3) (jrow kd t ky w ch 3)))]) C 8 (6 * J.1 + 3) dX9_isDone_144 rfl rfl (by decide) rfl (by omega) rfl ?_
          refine w_aload_n (nx := 146) C 1 dX9_isDone_145 rfl rfl rfl ?_
          refine w_getM (nx := 149) C (.ref (a 36)) 0 36 dX9_isDone_146 rfl wl_X9_78 rfl (by decide) rfl (mg_36 _ _) ?_
          refine w_iload (nx := 151) C 0 dX9_isDone_149 rfl rfl ?_
          refine w_iconst (nx := 152) C (nI 4) dX9_isDone_151 rfl (by decide) ?_
          refine w_iadd (nx := 153) C (nI (6 * J.1 + 4)) dX9_isDone_152 rfl (nI_add _ _) ?_
          refine w_iload_n (nx := 154) C 2 dX9_isDone_153 rfl rfl rfl ?_
          refine w_top (jrow kd t ky w ch 4) (congrArg nI hc.symm) ?_
          refine w_iast (nx := 155) (ws2 := [(a 0, mO a v), (a 1, aI (kG κ) 800 g1), (a 21, aI (kG κ) 12 f21), (a 22, aI (kG κ) 12 f22), (a 23, aI (kG κ) 12 f23), (a 24, aI (kG κ) 12 f24), (a 25, aI (kG κ) 12 f25), (a 26, aI (kG κ) 12 f26), (a 36, aI (kG κ) 606 (upd (upd (upd (upd (upd f36 (6 * J.1) (jrow kd t ky w ch 0)) (6 * J.1 + 1) (jrow kd t ky w ch 1)) (6 * J.1 + 2) (jrow kd t ky w ch 2)) (6 * J.1 + 3) (jrow kd t ky w ch 3)) (6 * J.1 + 4) (jrow kd t ky w ch 4)))]) C 8 (6 * J.1 + 4) dX9_isDone_154 rfl rfl (by decide) rfl (by omega) rfl ?_
          refine w_aload_n (nx := 156) C 1 dX9_isDone_155 rfl rfl rfl ?_
          refine w_getM (nx := 159) C (.ref (a 36)) 0 36 dX9_isDone_156 rfl wl_X9_78 rfl (by decide) rfl (mg_36 _ _) ?_
          refine w_iload (nx := 161) C 0 dX9_isDone_159 rfl rfl ?_
          refine w_iconst (nx := 162) C (nI 5) dX9_isDone_161 rfl (by decide) ?_
          refine w_iadd (nx := 163) C (nI (6 * J.1 + 5)) dX9_isDone_162 rfl (nI_add _ _) ?_
          refine w_iload_n (nx := 164) C 2 dX9_isDone_163 rfl rfl rfl ?_
          refine n_if_ne (tg := 172) (nx := 167) C dX9_isDone_164 rfl rfl (by omega) (fun h_10 => ?_) (fun h_10 => ?_)
          · refine w_aload_n (nx := 173) C 1 dX9_isDone_172 rfl rfl rfl ?_
            refine w_getM (nx := 176) C (.ref (a 21)) 0 21 dX9_isDone_173 rfl wl_X9_36 rfl (by decide) rfl (mg_21 _ _) ?_
            refine w_iload_n (nx := 177) C 2 dX9_isDone_176 rfl rfl rfl ?_
            refine w_iconst (nx := 178) C (nI 1) dX9_isDone_177 rfl (by decide) ?_
            refine w_isub (nx := 179) C (nI (d - 1)) dX9_isDone_178 rfl (pk_sub (by omega)) ?_
            refine w_iald (nx := 180) C (f21 (d - 1)) 2 (d - 1) dX9_isDone_179 rfl rfl (by decide) rfl (by omega) rfl ?_
            refine w_top (jrow kd t ky w ch 5) ((by show f21 (d - 1) = mkr ch; rw [mkr_last (by omega), hc]; exact hp _ (by omega))) ?_
            refine w_iast (nx := 181) (ws2 := [(a 0, mO a v), (a 1, aI (kG κ) 800 g1), (a 21, aI (kG κ) 12 f21), (a 22, aI (kG κ) 12 f22), (a 23, aI (kG κ) 12 f23), (a 24, aI (kG κ) 12 f24), (a 25, aI (kG κ) 12 f25), (a 26, aI (kG κ) 12 f26), (a 36, aI (kG κ) 606 (upd (upd (upd (upd (upd (upd f36 (6 * J.1) (jrow kd t ky w ch 0)) (6 * J.1 + 1) (jrow kd t ky w ch 1)) (6 * J.1 + 2) (jrow kd t ky w ch 2)) (6 * J.1 + 3) (jrow kd t ky w ch 3)) (6 * J.1 + 4) (jrow kd t ky w ch 4)) (6 * J.1 + 5) (jrow kd t ky w ch 5)))]) C 8 (6 * J.1 + 5) dX9_isDone_180 rfl rfl (by decide) rfl (by omega) rfl ?_
            refine w_aload_n (nx := 182) C 1 dX9_isDone_181 rfl rfl rfl ?_
            refine w_dup (nx := 183) C dX9_isDone_182 rfl rfl ?_
            refine w_getM (nx := 186) C (.int (v 13)) 0 13 dX9_isDone_183 rfl wl_X9_161 rfl (by decide) rfl (mg_13 _ _) ?_
            refine w_top (nI J.1) h13 ?_
            refine w_iconst (nx := 187) C (nI 1) dX9_isDone_186 rfl (by decide) ?_
            refine w_iadd (nx := 188) C (nI (J.1 + 1)) dX9_isDone_187 rfl (nI_add _ _) ?_
            refine w_putM (nx := 191) (ws2 := [(a 0, mO a (upd v 13 (nI (J.1 + 1)))), (a 1, aI (kG κ) 800 g1), (a 21, aI (kG κ) 12 f21), (a 22, aI (kG κ) 12 f22), (a 23, aI (kG κ) 12 f23), (a 24, aI (kG κ) 12 f24), (a 25, aI (kG κ) 12 f25), (a 26, aI (kG κ) 12 f26), (a 36, aI (kG κ) 606 (upd (upd (upd (upd (upd (upd f36 (6 * J.1) (jrow kd t ky w ch 0)) (6 * J.1 + 1) (jrow kd t ky w ch 1)) (6 * J.1 + 2) (jrow kd t ky w ch 2)) (6 * J.1 + 3) (jrow kd t ky w ch 3)) (6 * J.1 + 4) (jrow kd t ky w ch 4)) (6 * J.1 + 5) (jrow kd t ky w ch 5)))]) C 0 13 dX9_isDone_188 rfl wl_X9_161 rfl (by decide) rfl rfl rfl (ms_13 _ _ _) rfl ?_
            exact w_vret C E dX9_isDone_191 rfl (Nat.le_refl _) (Nat.le_refl _) ⟨_, rfl, rfl, (hT2), (hO2)⟩
          · refine w_bipush (nx := 169) C (-6) dX9_isDone_167 rfl (by decide) ?_
            refine w_goto (nx := 180) C dX9_isDone_169 rfl ?_
            refine w_top (jrow kd t ky w ch 5) ((by have e9 : ch = [] := List.length_eq_zero_iff.mp (by omega); subst e9; rfl)) ?_
            refine w_iast (nx := 181) (ws2 := [(a 0, mO a v), (a 1, aI (kG κ) 800 g1), (a 21, aI (kG κ) 12 f21), (a 22, aI (kG κ) 12 f22), (a 23, aI (kG κ) 12 f23), (a 24, aI (kG κ) 12 f24), (a 25, aI (kG κ) 12 f25), (a 26, aI (kG κ) 12 f26), (a 36, aI (kG κ) 606 (upd (upd (upd (upd (upd (upd f36 (6 * J.1) (jrow kd t ky w ch 0)) (6 * J.1 + 1) (jrow kd t ky w ch 1)) (6 * J.1 + 2) (jrow kd t ky w ch 2)) (6 * J.1 + 3) (jrow kd t ky w ch 3)) (6 * J.1 + 4) (jrow kd t ky w ch 4)) (6 * J.1 + 5) (jrow kd t ky w ch 5)))]) C 8 (6 * J.1 + 5) dX9_isDone_180 rfl rfl (by decide) rfl (by omega) rfl ?_
            refine w_aload_n (nx := 182) C 1 dX9_isDone_181 rfl rfl rfl ?_
            refine w_dup (nx := 183) C dX9_isDone_182 rfl rfl ?_
            refine w_getM (nx := 186) C (.int (v 13)) 0 13 dX9_isDone_183 rfl wl_X9_161 rfl (by decide) rfl (mg_13 _ _) ?_
            refine w_top (nI J.1) h13 ?_
            refine w_iconst (nx := 187) C (nI 1) dX9_isDone_186 rfl (by decide) ?_
            refine w_iadd (nx := 188) C (nI (J.1 + 1)) dX9_isDone_187 rfl (nI_add _ _) ?_
            refine w_putM (nx := 191) (ws2 := [(a 0, mO a (upd v 13 (nI (J.1 + 1)))), (a 1, aI (kG κ) 800 g1), (a 21, aI (kG κ) 12 f21), (a 22, aI (kG κ) 12 f22), (a 23, aI (kG κ) 12 f23), (a 24, aI (kG κ) 12 f24), (a 25, aI (kG κ) 12 f25), (a 26, aI (kG κ) 12 f26), (a 36, aI (kG κ) 606 (upd (upd (upd (upd (upd (upd f36 (6 * J.1) (jrow kd t ky w ch 0)) (6 * J.1 + 1) (jrow kd t ky w ch 1)) (6 * J.1 + 2) (jrow kd t ky w ch 2)) (6 * J.1 + 3) (jrow kd t ky w ch 3)) (6 * J.1 + 4) (jrow kd t ky w ch 4)) (6 * J.1 + 5) (jrow kd t ky w ch 5)))]) C 0 13 dX9_isDone_188 rfl wl_X9_161 rfl (by decide) rfl rfl rfl (ms_13 _ _ _) rfl ?_
            exact w_vret C E dX9_isDone_191 rfl (Nat.le_refl _) (Nat.le_refl _) ⟨_, rfl, rfl, (hT2), (hO2)⟩
        refine ww_lo [2, 3, 1, 0] (lo' := [(0, .ref (a 0)), (1, .int (nI d)), (2, .int (nI t)), (3, .int (nI ky))]) rfl ?_
        exact LP_9 (upd f1 (2 + 25 * t + 1 + 2 * (plT τ t ky) + 1) (nI (nT τ t (plT τ t ky) + nm))) (by rw [← app_1 hk1, hw4]; exact rMT_set hT hw ht (by omega)) (fun i hi => upd_n (by omega))
      · show WW κ 0 0 [(a 0, mO a v), (a 1, aI (kG κ) 800 f1), (a 21, aI (kG κ) 12 f21), (a 22, aI (kG κ) 12 f22), (a 23, aI (kG κ) 12 f23), (a 24, aI (kG κ) 12 f24), (a 25, aI (kG κ) 12 f25), (a 26, aI (kG κ) 12 f26), (a 36, aI (kG κ) 606 f36)] 59 [(3, .int (nI ky)), (2, .int (nI t)), (0, .ref (a 0)), (1, .int (nI d))] [.int (-6), .int (nI t), .ref (a 1)]
        exfalso; omega
  · have hk0 : kd = 0 := by omega
    obtain ⟨hw1, hw2, hw3⟩ := wgt_0 hk0 hg
    refine w_aload_n (nx := 24) C 2 dX9_isDone_23 rfl rfl rfl ?_
    refine w_iload_n (nx := 25) C 1 dX9_isDone_24 rfl rfl rfl ?_
    refine w_iload_n (nx := 26) C 0 dX9_isDone_25 rfl rfl rfl ?_
    refine w_aload_n (nx := 27) C 2 dX9_isDone_26 rfl rfl rfl ?_
    refine w_getM (nx := 30) C (.ref (a 25)) 0 25 dX9_isDone_27 rfl wl_X9_48 rfl (by decide) rfl (mg_25 _ _) ?_
    refine w_iload_n (nx := 31) C 3 dX9_isDone_30 rfl rfl rfl ?_
    refine w_iald (nx := 32) C (nI nm) 6 d dX9_isDone_31 rfl rfl (by decide) rfl (by omega) h25 ?_
    refine w_callV (nx := 35) (wr := [(a 21, aI (kG κ) 12 f21), (a 22, aI (kG κ) 12 f22), (a 23, aI (kG κ) 12 f23), (a 24, aI (kG κ) 12 f24), (a 25, aI (kG κ) 12 f25), (a 26, aI (kG κ) 12 f26), (a 36, aI (kG κ) 606 f36)]) (rest := []) C mi_X9_lays (c_X9_lays _ _ a v f1 τ t ky nm (by first | assumption | omega) (by first | assumption | omega) (by first | assumption | omega) (by first | assumption | omega) (hw2)) 0 dX9_isDone_32 rfl wl_X9_153 rfl rfl rfl (pm_sel [0, 1, 2, 3, 4, 5, 6, 7, 8] 9 (by decide +kernel) rfl rfl) rfl rfl (Nat.le_of_ble_eq_true rfl) (Nat.le_of_ble_eq_true rfl) (Nat.le_of_ble_eq_true rfl) (Nat.zero_le _) (Nat.zero_le _) (fun v9 w9 R_11 => ?_)
    obtain ⟨gA, rfl, rfl, hTA, hOA⟩ := R_11
    show WW κ 0 0 [(a 0, mO a v), (a 1, aI (kG κ) 800 gA), (a 21, aI (kG κ) 12 f21), (a 22, aI (kG κ) 12 f22), (a 23, aI (kG κ) 12 f23), (a 24, aI (kG κ) 12 f24), (a 25, aI (kG κ) 12 f25), (a 26, aI (kG κ) 12 f26), (a 36, aI (kG κ) 606 f36)] 35 [(3, .int (nI ky)), (2, .int (nI t)), (0, .ref (a 0)), (1, .int (nI d))] []
    refine w_goto (nx := 88) C dX9_isDone_35 rfl ?_
    have LP_12 : ∀ (g1 : Nat → Int32), (rMT g1 (appT τ kd t ky w)) → (sMO f1 g1) → WW κ 0 0 [(a 0, mO a v), (a 1, aI (kG κ) 800 g1), (a 21, aI (kG κ) 12 f21), (a 22, aI (kG κ) 12 f22), (a 23, aI (kG κ) 12 f23), (a 24, aI (kG κ) 12 f24), (a 25, aI (kG κ) 12 f25), (a 26, aI (kG κ) 12 f26), (a 36, aI (kG κ) 606 f36)] 88 [(0, .ref (a 0)), (1, .int (nI d)), (2, .int (nI t)), (3, .int (nI ky))] [] := by
      intro g1 hT2 hO2
      refine w_bipush (nx := 90) C (nI 6) dX9_isDone_88 rfl (by decide) ?_
      refine w_aload_n (nx := 91) C 0 dX9_isDone_90 rfl rfl rfl ?_
      refine w_getM (nx := 94) C (.int (v 13)) 0 13 dX9_isDone_91 rfl wl_X9_161 rfl (by decide) rfl (mg_13 _ _) ?_
      refine w_top (nI J.1) h13 ?_
      refine w_imul (nx := 95) C (nI (6 * J.1)) dX9_isDone_94 rfl (pk_mul _ _) ?_
      refine w_istore (nx := 97) (lo2 := [(4, .int (nI (6 * J.1))), (0, .ref (a 0)), (1, .int (nI d)), (2, .int (nI t)), (3, .int (nI ky))]) C dX9_isDone_95 rfl (by decide) rfl ?_
      refine w_aload_n (nx := 98) C 1 dX9_isDone_97 rfl rfl rfl ?_
      refine w_getM (nx := 101) C (.ref (a 36)) 0 36 dX9_isDone_98 rfl wl_X9_78 rfl (by decide) rfl (mg_36 _ _) ?_
      refine w_iload (nx := 103) C 0 dX9_isDone_101 rfl rfl ?_
      refine w_aload_n (nx := 104) C 1 dX9_isDone_103 rfl rfl rfl ?_
      refine w_getM (nx := 107) C (.ref (a 22)) 0 22 dX9_isDone_104 rfl wl_X9_39 rfl (by decide) rfl (mg_22 _ _) ?_
      refine w_iload_n (nx := 108) C 2 dX9_isDone_107 rfl rfl rfl ?_
      refine w_iald (nx := 109) C (nI kd) 3 d dX9_isDone_108 rfl rfl (by decide) rfl (by omega) h22 ?_
      refine w_top (jrow kd t ky w ch 0) (rfl) ?_
      refine w_iast (nx := 110) (ws2 := [(a 0, mO a v), (a 1, aI (kG κ) 800 g1), (a 21, aI (kG κ) 12 f21), (a 22, aI (kG κ) 12 f22), (a 23, aI (kG κ) 12 f23), (a 24, aI (kG κ) 12 f24), (a 25, aI (kG κ) 12 f25), (a 26, aI (kG κ) 12 f26), (a 36, aI (kG κ) 606 (upd f36 (6 * J.1) (jrow kd t ky w ch 0)))]) C 8 (6 * J.1) dX9_isDone_109 rfl rfl (by decide) rfl (by omega) rfl ?_
      refine w_aload_n (nx := 111) C 1 dX9_isDone_110 rfl rfl rfl ?_
      refine w_getM (nx := 114) C (.ref (a 36)) 0 36 dX9_isDone_111 rfl wl_X9_78 rfl (by decide) rfl (mg_36 _ _) ?_
      refine w_iload (nx := 116) C 0 dX9_isDone_114 rfl rfl ?_
      refine w_iconst (nx := 117) C (nI 1) dX9_isDone_116 rfl (by decide) ?_
      refine w_iadd (nx := 118) C (nI (6 * J.1 + 1)) dX9_isDone_117 rfl (nI_add _ _) ?_
      refine w_iload_n (nx := 119) C 3 dX9_isDone_118 rfl rfl rfl ?_
      refine w_top (jrow kd t ky w ch 1) (rfl) ?_
      refine w_iast (nx := 120) (ws2 := [(a 0, mO a v), (a 1, aI (kG κ) 800 g1), (a 21, aI (kG κ) 12 f21), (a 22, aI (kG κ) 12 f22), (a 23, aI (kG κ) 12 f23), (a 24, aI (kG κ) 12 f24), (a 25, aI (kG κ) 12 f25), (a 26, aI (kG κ) 12 f26), (a 36, aI (kG κ) 606 (upd (upd f36 (6 * J.1) (jrow kd t ky w ch 0)) (6 * J.1 + 1) (jrow kd t ky w ch 1)))]) C 8 (6 * J.1 + 1) dX9_isDone_119 rfl rfl (by decide) rfl (by omega) rfl ?_
      refine w_aload_n (nx := 121) C 1 dX9_isDone_120 rfl rfl rfl ?_
      refine w_getM (nx := 124) C (.ref (a 36)) 0 36 dX9_isDone_121 rfl wl_X9_78 rfl (by decide) rfl (mg_36 _ _) ?_
      refine w_iload (nx := 126) C 0 dX9_isDone_124 rfl rfl ?_
      refine w_iconst (nx := 127) C (nI 2) dX9_isDone_126 rfl (by decide) ?_
      refine w_iadd (nx := 128) C (nI (6 * J.1 + 2)) dX9_isDone_127 rfl (nI_add _ _) ?_
      refine w_iload_n (nx := 129) C 4 dX9_isDone_128 rfl rfl rfl ?_
      refine w_top (jrow kd t ky w ch 2) (rfl) ?_
      refine w_iast (nx := 130) (ws2 := [(a 0, mO a v), (a 1, aI (kG κ) 800 g1), (a 21, aI (kG κ) 12 f21), (a 22, aI (kG κ) 12 f22), (a 23, aI (kG κ) 12 f23), (a 24, aI (kG κ) 12 f24), (a 25, aI (kG κ) 12 f25), (a 26, aI (kG κ) 12 f26), (a 36, aI (kG κ) 606 (upd (upd (upd f36 (6 * J.1) (jrow kd t ky w ch 0)) (6 * J.1 + 1) (jrow kd t ky w ch 1)) (6 * J.1 + 2) (jrow kd t ky w ch 2)))]) C 8 (6 * J.1 + 2) dX9_isDone_129 rfl rfl (by decide) rfl (by omega) rfl ?_
      refine w_aload_n (nx := 131) C 1 dX9_isDone_130 rfl rfl rfl ?_
      refine w_getM (nx := 134) C (.ref (a 36)) 0 36 dX9_isDone_131 rfl wl_X9_78 rfl (by decide) rfl (mg_36 _ _) ?_
      refine w_iload (nx := 136) C 0 dX9_isDone_134 rfl rfl ?_
      refine w_iconst (nx := 137) C (nI 3) dX9_isDone_136 rfl (by decide) ?_
      refine w_iadd (nx := 138) C (nI (6 * J.1 + 3)) dX9_isDone_137 rfl (nI_add _ _) ?_
      refine w_aload_n (nx := 139) C 1 dX9_isDone_138 rfl rfl rfl ?_
      refine w_getM (nx := 142) C (.ref (a 26)) 0 26 dX9_isDone_139 rfl wl_X9_51 rfl (by decide) rfl (mg_26 _ _) ?_
      refine w_iload_n (nx := 143) C 2 dX9_isDone_142 rfl rfl rfl ?_
      refine w_iald (nx := 144) C (nI w) 7 d dX9_isDone_143 rfl rfl (by decide) rfl (by omega) h26 ?_
      refine w_top (jrow kd t ky w ch 3) (rfl) ?_
      refine w_iast (nx := 145) (ws2 := [(a 0, mO a v), (a 1, aI (kG κ) 800 g1), (a 21, aI (kG κ) 12 f21), (a 22, aI (kG κ) 12 f22), (a 23, aI (kG κ) 12 f23), (a 24, aI (kG κ) 12 f24), (a 25, aI (kG κ) 12 f25), (a 26, aI (kG κ) 12 f26), (a 36, aI (kG κ) 606 (upd (upd (upd (upd f36 (6 * J.1) (jrow kd t ky w ch 0)) (6 * J.1 + 1) (jrow kd t ky w ch 1)) (6 * J.1 + 2) (jrow kd t ky w ch 2)) (6 * J.1 + 3) (jrow kd t ky w ch 3)))]) C 8 (6 * J.1 + 3) dX9_isDone_144 rfl rfl (by decide) rfl (by omega) rfl ?_
      refine w_aload_n (nx := 146) C 1 dX9_isDone_145 rfl rfl rfl ?_
      refine w_getM (nx := 149) C (.ref (a 36)) 0 36 dX9_isDone_146 rfl wl_X9_78 rfl (by decide) rfl (mg_36 _ _) ?_
      refine w_iload (nx := 151) C 0 dX9_isDone_149 rfl rfl ?_
      refine w_iconst (nx := 152) C (nI 4) dX9_isDone_151 rfl (by decide) ?_
      refine w_iadd (nx := 153) C (nI (6 * J.1 + 4)) dX9_isDone_152 rfl (nI_add _ _) ?_
      refine w_iload_n (nx := 154) C 2 dX9_isDone_153 rfl rfl rfl ?_
      refine w_top (jrow kd t ky w ch 4) (congrArg nI hc.symm) ?_
      refine w_iast (nx := 155) (ws2 := [(a 0, mO a v), (a 1, aI (kG κ) 800 g1), (a 21, aI (kG κ) 12 f21), (a 22, aI (kG κ) 12 f22), (a 23, aI (kG κ) 12 f23), (a 24, aI (kG κ) 12 f24), (a 25, aI (kG κ) 12 f25), (a 26, aI (kG κ) 12 f26), (a 36, aI (kG κ) 606 (upd (upd (upd (upd (upd f36 (6 * J.1) (jrow kd t ky w ch 0)) (6 * J.1 + 1) (jrow kd t ky w ch 1)) (6 * J.1 + 2) (jrow kd t ky w ch 2)) (6 * J.1 + 3) (jrow kd t ky w ch 3)) (6 * J.1 + 4) (jrow kd t ky w ch 4)))]) C 8 (6 * J.1 + 4) dX9_isDone_154 rfl rfl (by decide) rfl (by omega) rfl ?_
      refine w_aload_n (nx := 156) C 1 dX9_isDone_155 rfl rfl rfl ?_
      refine w_getM (nx := 159) C (.ref (a 36)) 0 36 dX9_isDone_156 rfl wl_X9_78 rfl (by decide) rfl (mg_36 _ _) ?_
      refine w_iload (nx := 161) C 0 dX9_isDone_159 rfl rfl ?_
      refine w_iconst (nx := 162) C (nI 5) dX9_isDone_161 rfl (by decide) ?_
      refine w_iadd (nx := 163) C (nI (6 * J.1 + 5)) dX9_isDone_162 rfl (nI_add _ _) ?_
      refine w_iload_n (nx := 164) C 2 dX9_isDone_163 rfl rfl rfl ?_
      refine n_if_ne (tg := 172) (nx := 167) C dX9_isDone_164 rfl rfl (by omega) (fun h_13 => ?_) (fun h_13 => ?_)
      · refine w_aload_n (nx := 173) C 1 dX9_isDone_172 rfl rfl rfl ?_
        refine w_getM (nx := 176) C (.ref (a 21)) 0 21 dX9_isDone_173 rfl wl_X9_36 rfl (by decide) rfl (mg_21 _ _) ?_
        refine w_iload_n (nx := 177) C 2 dX9_isDone_176 rfl rfl rfl ?_
        refine w_iconst (nx := 178) C (nI 1) dX9_isDone_177 rfl (by decide) ?_
        refine w_isub (nx := 179) C (nI (d - 1)) dX9_isDone_178 rfl (pk_sub (by omega)) ?_
        refine w_iald (nx := 180) C (f21 (d - 1)) 2 (d - 1) dX9_isDone_179 rfl rfl (by decide) rfl (by omega) rfl ?_
        refine w_top (jrow kd t ky w ch 5) ((by show f21 (d - 1) = mkr ch; rw [mkr_last (by omega), hc]; exact hp _ (by omega))) ?_
        refine w_iast (nx := 181) (ws2 := [(a 0, mO a v), (a 1, aI (kG κ) 800 g1), (a 21, aI (kG κ) 12 f21), (a 22, aI (kG κ) 12 f22), (a 23, aI (kG κ) 12 f23), (a 24, aI (kG κ) 12 f24), (a 25, aI (kG κ) 12 f25), (a 26, aI (kG κ) 12 f26), (a 36, aI (kG κ) 606 (upd (upd (upd (upd (upd (upd f36 (6 * J.1) (jrow kd t ky w ch 0)) (6 * J.1 + 1) (jrow kd t ky w ch 1)) (6 * J.1 + 2) (jrow kd t ky w ch 2)) (6 * J.1 + 3) (jrow kd t ky w ch 3)) (6 * J.1 + 4) (jrow kd t ky w ch 4)) (6 * J.1 + 5) (jrow kd t ky w ch 5)))]) C 8 (6 * J.1 + 5) dX9_isDone_180 rfl rfl (by decide) rfl (by omega) rfl ?_
        refine w_aload_n (nx := 182) C 1 dX9_isDone_181 rfl rfl rfl ?_
        refine w_dup (nx := 183) C dX9_isDone_182 rfl rfl ?_
        refine w_getM (nx := 186) C (.int (v 13)) 0 13 dX9_isDone_183 rfl wl_X9_161 rfl (by decide) rfl (mg_13 _ _) ?_
        refine w_top (nI J.1) h13 ?_
        refine w_iconst (nx := 187) C (nI 1) dX9_isDone_186 rfl (by decide) ?_
        refine w_iadd (nx := 188) C (nI (J.1 + 1)) dX9_isDone_187 rfl (nI_add _ _) ?_
        refine w_putM (nx := 191) (ws2 := [(a 0, mO a (upd v 13 (nI (J.1 + 1)))), (a 1, aI (kG κ) 800 g1), (a 21, aI (kG κ) 12 f21), (a 22, aI (kG κ) 12 f22), (a 23, aI (kG κ) 12 f23), (a 24, aI (kG κ) 12 f24), (a 25, aI (kG κ) 12 f25), (a 26, aI (kG κ) 12 f26), (a 36, aI (kG κ) 606 (upd (upd (upd (upd (upd (upd f36 (6 * J.1) (jrow kd t ky w ch 0)) (6 * J.1 + 1) (jrow kd t ky w ch 1)) (6 * J.1 + 2) (jrow kd t ky w ch 2)) (6 * J.1 + 3) (jrow kd t ky w ch 3)) (6 * J.1 + 4) (jrow kd t ky w ch 4)) (6 * J.1 + 5) (jrow kd t ky w ch 5)))]) C 0 13 dX9_isDone_188 rfl wl_X9_161 rfl (by decide) rfl rfl rfl (ms_13 _ _ _) rfl ?_
        exact w_vret C E dX9_isDone_191 rfl (Nat.le_refl _) (Nat.le_refl _) ⟨_, rfl, rfl, (hT2), (hO2)⟩
      · refine w_bipush (nx := 169) C (-6) dX9_isDone_167 rfl (by decide) ?_
        refine w_goto (nx := 180) C dX9_isDone_169 rfl ?_
        refine w_top (jrow kd t ky w ch 5) ((by have e9 : ch = [] := List.length_eq_zero_iff.mp (by omega); subst e9; rfl)) ?_
        refine w_iast (nx := 181) (ws2 := [(a 0, mO a v), (a 1, aI (kG κ) 800 g1), (a 21, aI (kG κ) 12 f21), (a 22, aI (kG κ) 12 f22), (a 23, aI (kG κ) 12 f23), (a 24, aI (kG κ) 12 f24), (a 25, aI (kG κ) 12 f25), (a 26, aI (kG κ) 12 f26), (a 36, aI (kG κ) 606 (upd (upd (upd (upd (upd (upd f36 (6 * J.1) (jrow kd t ky w ch 0)) (6 * J.1 + 1) (jrow kd t ky w ch 1)) (6 * J.1 + 2) (jrow kd t ky w ch 2)) (6 * J.1 + 3) (jrow kd t ky w ch 3)) (6 * J.1 + 4) (jrow kd t ky w ch 4)) (6 * J.1 + 5) (jrow kd t ky w ch 5)))]) C 8 (6 * J.1 + 5) dX9_isDone_180 rfl rfl (by decide) rfl (by omega) rfl ?_
        refine w_aload_n (nx := 182) C 1 dX9_isDone_181 rfl rfl rfl ?_
        refine w_dup (nx := 183) C dX9_isDone_182 rfl rfl ?_
        refine w_getM (nx := 186) C (.int (v 13)) 0 13 dX9_isDone_183 rfl wl_X9_161 rfl (by decide) rfl (mg_13 _ _) ?_
        refine w_top (nI J.1) h13 ?_
        refine w_iconst (nx := 187) C (nI 1) dX9_isDone_186 rfl (by decide) ?_
        refine w_iadd (nx := 188) C (nI (J.1 + 1)) dX9_isDone_187 rfl (nI_add _ _) ?_
        refine w_putM (nx := 191) (ws2 := [(a 0, mO a (upd v 13 (nI (J.1 + 1)))), (a 1, aI (kG κ) 800 g1), (a 21, aI (kG κ) 12 f21), (a 22, aI (kG κ) 12 f22), (a 23, aI (kG κ) 12 f23), (a 24, aI (kG κ) 12 f24), (a 25, aI (kG κ) 12 f25), (a 26, aI (kG κ) 12 f26), (a 36, aI (kG κ) 606 (upd (upd (upd (upd (upd (upd f36 (6 * J.1) (jrow kd t ky w ch 0)) (6 * J.1 + 1) (jrow kd t ky w ch 1)) (6 * J.1 + 2) (jrow kd t ky w ch 2)) (6 * J.1 + 3) (jrow kd t ky w ch 3)) (6 * J.1 + 4) (jrow kd t ky w ch 4)) (6 * J.1 + 5) (jrow kd t ky w ch 5)))]) C 0 13 dX9_isDone_188 rfl wl_X9_161 rfl (by decide) rfl rfl rfl (ms_13 _ _ _) rfl ?_
        exact w_vret C E dX9_isDone_191 rfl (Nat.le_refl _) (Nat.le_refl _) ⟨_, rfl, rfl, (hT2), (hO2)⟩
    refine ww_lo [2, 3, 1, 0] (lo' := [(0, .ref (a 0)), (1, .int (nI d)), (2, .int (nI t)), (3, .int (nI ky))]) rfl ?_
    exact LP_12 gA (by rw [← app_0 hk0, hw3]; exact hTA) (hOA)
set_option maxHeartbeats 4000000 in
set_option maxRecDepth 100000 in
theorem c_X9_begins (l : Launch) (G : GG) (a : Nat → Nat) (v : Nat → Int32) (f1 : Nat → Int32) (f17 : Nat → Int32) (f21 : Nat → Int32) (f22 : Nat → Int32) (f23 : Nat → Int32) (f24 : Nat → Int32) (f25 : Nat → Int32) (f26 : Nat → Int32) (f27 : Nat → Int32) (f28 : Nat → Int32) (f29 : Nat → Int32) (f31 : Nat → Int32) (f32 : Nat → Int32) (f33 : Nat → Int32) (f34 : Nat → Int32) (f35 : Nat → Int32) (f36 : Nat → Int32) (g : CF) (wo : Int32) (v0 : Nat → Int32) (f0 : Nat → Int32) (low : Nat) (fs : List FR) (r : RS) (kd : Nat) (t : Nat) (ky : Nat) (nm : Nat) (d : Nat) (ch : List Nat) (ff : Nat) (hM : MM g wo v0 f0 low 0 0 fs r v f1 f17 f21 f22 f23 f24 f25 f26 f27 f28 f29 f31 f32 f33 f34 f35 f36) (hr : rsn r = 0) (hk : kd < 3) (ht : t < 4) (hy : ky < 100) (hn : nm < 1000) (hc : ch.length = d) (hcD : d ≤ cD g + 1) (hx : ∀ x ∈ ch, x < 12) (hp : rCh f21 ch) (hl : low + fs.length = d) (hf : 10 ≤ ff + d) : MT l G yX9_begins cX9_begins 6 none 5 0 0 [.ref (a 0), .int (nI kd), .int (nI t), .int (nI ky), .int (nI nm), .int (nI d)] [(a 0, mO a v), (a 1, aI G 800 f1), (a 17, aI G 12 f17), (a 21, aI G 12 f21), (a 22, aI G 12 f22), (a 23, aI G 12 f23), (a 24, aI G 12 f24), (a 25, aI G 12 f25), (a 26, aI G 12 f26), (a 27, aI G 12 f27), (a 28, aI G 12 f28), (a 29, aZ G 4 f29), (a 31, aI G 1300 f31), (a 32, aI G 1300 f32), (a 33, aI G 1300 f33), (a 34, aI G 1300 f34), (a 35, aI G 13000 f35), (a 36, aI G 606 f36)] (fun v9 ws9 => ∃ (fs2 : List FR) (r2 : RS) (v2 : Nat → Int32) (g1 : Nat → Int32) (g17 : Nat → Int32) (g21 : Nat → Int32) (g22 : Nat → Int32) (g23 : Nat → Int32) (g24 : Nat → Int32) (g25 : Nat → Int32) (g26 : Nat → Int32) (g27 : Nat → Int32) (g28 : Nat → Int32) (g29 : Nat → Int32) (g31 : Nat → Int32) (g32 : Nat → Int32) (g33 : Nat → Int32) (g34 : Nat → Int32) (g35 : Nat → Int32) (g36 : Nat → Int32), v9 = none ∧ ws9 = [(a 0, mO a v2), (a 1, aI G 800 g1), (a 17, aI G 12 g17), (a 21, aI G 12 g21), (a 22, aI G 12 g22), (a 23, aI G 12 g23), (a 24, aI G 12 g24), (a 25, aI G 12 g25), (a 26, aI G 12 g26), (a 27, aI G 12 g27), (a 28, aI G 12 g28), (a 29, aZ G 4 g29), (a 31, aI G 1300 g31), (a 32, aI G 1300 g32), (a 33, aI G 1300 g33), (a 34, aI G 1300 g34), (a 35, aI G 13000 g35), (a 36, aI G 606 g36)] ∧ MM g wo v0 f0 low 0 0 fs2 r2 v2 g1 g17 g21 g22 g23 g24 g25 g26 g27 g28 g29 g31 g32 g33 g34 g35 g36 ∧ finS g fs2 r2 = finS g fs (car g ff (mkS fs) kd t ky nm ch r) ∧ msS fs2 r2 ≤ msS fs r) := by
  refine MT.of RX9 [(0, .ref (a 0)), (1, .int (nI kd)), (2, .int (nI t)), (3, .int (nI ky)), (4, .int (nI nm)), (5, .int (nI d))] (by decide +kernel) rfl rfl (Nat.le_of_ble_eq_true rfl) (fun κ C E hl9 hG9 hnm9 => ?_)
  subst hl9; subst hG9
  obtain ⟨hgC, ⟨hD8, hL1, hn12⟩, hf0, hf1, hmR, hmT, hwT, hb100, hjb, hw1200, hP8, hmv, hl9, h18, hwo⟩ := MM_bas hM
  obtain ⟨hv9, hv10, hv11, hv12, hv13, hv16, hv19, hv30⟩ := MM_v hM
  obtain ⟨f, rfl⟩ : ∃ f, ff = f + 1 := ⟨ff - 1, by omega⟩
  refine w_iload (nx := 2) C 5 dX9_begins_0 rfl rfl ?_
  refine w_aload_n (nx := 3) C 0 dX9_begins_2 rfl rfl rfl ?_
  refine w_getM (nx := 6) C (.ref (a 1)) 0 1 dX9_begins_3 rfl wl_X9_7 rfl (by decide) rfl (mg_1 _ _) ?_
  refine w_iconst (nx := 7) C (nI 0) dX9_begins_6 rfl (by decide) ?_
  refine w_iald (nx := 8) C (nI (cD g)) 1 0 dX9_begins_7 rfl rfl (by decide) rfl (by omega) hf0 ?_
  refine n_icmp_le (tg := 21) (nx := 11) C dX9_begins_8 rfl rfl (by omega) (by omega) (fun h_1 => ?_) (fun h_1 => ?_)
  · have hd1 : d ≤ cD g := by omega
    refine w_aload_n (nx := 22) C 0 dX9_begins_21 rfl rfl rfl ?_
    refine w_getM (nx := 25) C (.int (v 10)) 0 10 dX9_begins_22 rfl wl_X9_130 rfl (by decide) rfl (mg_10 _ _) ?_
    refine w_top (nI (rsB r)) hv10 ?_
    refine w_bipush (nx := 27) C (nI 100) dX9_begins_25 rfl (by decide) ?_
    refine n_icmp_ne (tg := 40) (nx := 30) C dX9_begins_27 rfl rfl (by omega) (by omega) (fun h_2 => ?_) (fun h_2 => ?_)
    · have hb1 : rsB r < 100 := by omega
      refine w_aload_n (nx := 41) C 0 dX9_begins_40 rfl rfl rfl ?_
      refine w_dup (nx := 42) C dX9_begins_41 rfl rfl ?_
      refine w_getM (nx := 45) C (.int (v 10)) 0 10 dX9_begins_42 rfl wl_X9_130 rfl (by decide) rfl (mg_10 _ _) ?_
      refine w_top (nI (rsB r)) hv10 ?_
      refine w_iconst (nx := 46) C (nI 1) dX9_begins_45 rfl (by decide) ?_
      refine w_iadd (nx := 47) C (nI (rsB r + 1)) dX9_begins_46 rfl (nI_add _ _) ?_
      refine w_putM (nx := 50) (ws2 := [(a 0, mO a (upd v 10 (nI (rsB r + 1)))), (a 1, aI (kG κ) 800 f1), (a 17, aI (kG κ) 12 f17), (a 21, aI (kG κ) 12 f21), (a 22, aI (kG κ) 12 f22), (a 23, aI (kG κ) 12 f23), (a 24, aI (kG κ) 12 f24), (a 25, aI (kG κ) 12 f25), (a 26, aI (kG κ) 12 f26), (a 27, aI (kG κ) 12 f27), (a 28, aI (kG κ) 12 f28), (a 29, aZ (kG κ) 4 f29), (a 31, aI (kG κ) 1300 f31), (a 32, aI (kG κ) 1300 f32), (a 33, aI (kG κ) 1300 f33), (a 34, aI (kG κ) 1300 f34), (a 35, aI (kG κ) 13000 f35), (a 36, aI (kG κ) 606 f36)]) C 0 10 dX9_begins_47 rfl wl_X9_130 rfl (by decide) rfl rfl rfl (ms_10 _ _ _) rfl ?_
      refine w_aload_n (nx := 51) C 0 dX9_begins_50 rfl rfl rfl ?_
      refine w_iload (nx := 53) C 5 dX9_begins_51 rfl rfl ?_
      refine w_aload_n (nx := 54) C 0 dX9_begins_53 rfl rfl rfl ?_
      refine w_getM (nx := 57) C (.int (v 12)) 0 12 dX9_begins_54 rfl wl_X9_133 rfl (by decide) rfl (mg_12 _ _) ?_
      refine w_icmp_le (tg := 65) (nx := 60) C dX9_begins_57 rfl rfl (fun h_3 => ?_) (fun h_3 => ?_)
      · have hmxT := mx_T hv12 hP8 (by omega) h_3
        refine w_aload_n (nx := 66) C 0 dX9_begins_65 rfl rfl rfl ?_
        refine w_getM (nx := 69) C (.int (v 12)) 0 12 dX9_begins_66 rfl wl_X9_133 rfl (by decide) rfl (mg_12 _ _) ?_
        refine w_top (nI (max (rsP r) d)) hmxT ?_
        have LP_4 : WW κ 0 0 [(a 0, mO a (upd v 10 (nI (rsB r + 1)))), (a 1, aI (kG κ) 800 f1), (a 17, aI (kG κ) 12 f17), (a 21, aI (kG κ) 12 f21), (a 22, aI (kG κ) 12 f22), (a 23, aI (kG κ) 12 f23), (a 24, aI (kG κ) 12 f24), (a 25, aI (kG κ) 12 f25), (a 26, aI (kG κ) 12 f26), (a 27, aI (kG κ) 12 f27), (a 28, aI (kG κ) 12 f28), (a 29, aZ (kG κ) 4 f29), (a 31, aI (kG κ) 1300 f31), (a 32, aI (kG κ) 1300 f32), (a 33, aI (kG κ) 1300 f33), (a 34, aI (kG κ) 1300 f34), (a 35, aI (kG κ) 13000 f35), (a 36, aI (kG κ) 606 f36)] 69 [(0, .ref (a 0)), (1, .int (nI kd)), (2, .int (nI t)), (3, .int (nI ky)), (4, .int (nI nm)), (5, .int (nI d))] [.int (nI (max (rsP r) d)), .ref (a 0)] := by
          skip
          refine w_putM (nx := 72) (ws2 := [(a 0, mO a (upd (upd v 10 (nI (rsB r + 1))) 12 (nI (max (rsP r) d)))), (a 1, aI (kG κ) 800 f1), (a 17, aI (kG κ) 12 f17), (a 21, aI (kG κ) 12 f21), (a 22, aI (kG κ) 12 f22), (a 23, aI (kG κ) 12 f23), (a 24, aI (kG κ) 12 f24), (a 25, aI (kG κ) 12 f25), (a 26, aI (kG κ) 12 f26), (a 27, aI (kG κ) 12 f27), (a 28, aI (kG κ) 12 f28), (a 29, aZ (kG κ) 4 f29), (a 31, aI (kG κ) 1300 f31), (a 32, aI (kG κ) 1300 f32), (a 33, aI (kG κ) 1300 f33), (a 34, aI (kG κ) 1300 f34), (a 35, aI (kG κ) 13000 f35), (a 36, aI (kG κ) 606 f36)]) C 0 12 dX9_begins_69 rfl wl_X9_133 rfl (by decide) rfl rfl rfl (ms_12 _ _ _) rfl ?_
          refine w_aload_n (nx := 73) C 0 dX9_begins_72 rfl rfl rfl ?_
          refine w_getM (nx := 76) C (.ref (a 29)) 0 29 dX9_begins_73 rfl wl_X9_60 rfl (by decide) rfl (mg_29 _ _) ?_
          refine w_iload_n (nx := 77) C 2 dX9_begins_76 rfl rfl rfl ?_
          refine w_zald (nx := 78) C (bC ((mkS fs).testBit t = true)) 11 t dX9_begins_77 rfl rfl (by decide) rfl (by omega) (hmv t ht) ?_
          refine b_if_eq (tg := 91) (nx := 81) C dX9_begins_78 rfl rfl (fun h_5 => ?_) (fun h_5 => ?_)
          · have hmt := h_5
            refine w_aload_n (nx := 92) C 0 dX9_begins_91 rfl rfl rfl ?_
            refine w_iload_n (nx := 93) C 1 dX9_begins_92 rfl rfl rfl ?_
            refine w_iload_n (nx := 94) C 2 dX9_begins_93 rfl rfl rfl ?_
            refine w_iload_n (nx := 95) C 3 dX9_begins_94 rfl rfl rfl ?_
            refine w_iload (nx := 97) C 4 dX9_begins_95 rfl rfl ?_
            refine w_callV (nx := 100) (wr := [(a 17, aI (kG κ) 12 f17), (a 21, aI (kG κ) 12 f21), (a 22, aI (kG κ) 12 f22), (a 23, aI (kG κ) 12 f23), (a 24, aI (kG κ) 12 f24), (a 25, aI (kG κ) 12 f25), (a 26, aI (kG κ) 12 f26), (a 27, aI (kG κ) 12 f27), (a 28, aI (kG κ) 12 f28), (a 29, aZ (kG κ) 4 f29), (a 31, aI (kG κ) 1300 f31), (a 32, aI (kG κ) 1300 f32), (a 33, aI (kG κ) 1300 f33), (a 34, aI (kG κ) 1300 f34), (a 35, aI (kG κ) 13000 f35), (a 36, aI (kG κ) 606 f36)]) (rest := []) C mi_X9_isPossible (c_X9_isPossible _ _ a (upd (upd v 10 (nI (rsB r + 1))) 12 (nI (max (rsP r) d))) f1 (rsT r) kd t ky nm (hmT) (hwT) (by first | assumption | omega) (by first | assumption | omega) (by first | assumption | omega) (by first | assumption | omega)) 0 dX9_begins_97 rfl wl_X9_136 rfl rfl rfl (pm_sel [0, 1, 2, 3, 4, 5, 6, 7, 8, 9, 10, 11, 12, 13, 14, 15, 16, 17] 18 (by decide +kernel) rfl rfl) rfl rfl (Nat.le_of_ble_eq_true rfl) (Nat.le_of_ble_eq_true rfl) (Nat.le_of_ble_eq_true rfl) (Nat.zero_le _) (Nat.zero_le _) (fun v9 w9 R_6 => ?_)
            obtain ⟨rfl, rfl⟩ := R_6
            show WW κ 0 0 [(a 0, mO a (upd (upd v 10 (nI (rsB r + 1))) 12 (nI (max (rsP r) d)))), (a 1, aI (kG κ) 800 f1), (a 17, aI (kG κ) 12 f17), (a 21, aI (kG κ) 12 f21), (a 22, aI (kG κ) 12 f22), (a 23, aI (kG κ) 12 f23), (a 24, aI (kG κ) 12 f24), (a 25, aI (kG κ) 12 f25), (a 26, aI (kG κ) 12 f26), (a 27, aI (kG κ) 12 f27), (a 28, aI (kG κ) 12 f28), (a 29, aZ (kG κ) 4 f29), (a 31, aI (kG κ) 1300 f31), (a 32, aI (kG κ) 1300 f32), (a 33, aI (kG κ) 1300 f33), (a 34, aI (kG κ) 1300 f34), (a 35, aI (kG κ) 13000 f35), (a 36, aI (kG κ) 606 f36)] 100 [(0, .ref (a 0)), (1, .int (nI kd)), (2, .int (nI t)), (3, .int (nI ky)), (4, .int (nI nm)), (5, .int (nI d))] [.int (bC (¬ wgt (rsT r) kd t ky nm = none))]
            refine b_if_ne (tg := 141) (nx := 103) C dX9_begins_100 rfl rfl (fun h_7 => ?_) (fun h_7 => ?_)
            · rcases hgw : wgt (rsT r) kd t ky nm with _ | w
              · exact absurd hgw h_7
              refine w_aload_n (nx := 142) C 0 dX9_begins_141 rfl rfl rfl ?_
              refine w_getM (nx := 145) C (.ref (a 29)) 0 29 dX9_begins_142 rfl wl_X9_60 rfl (by decide) rfl (mg_29 _ _) ?_
              refine w_iload_n (nx := 146) C 2 dX9_begins_145 rfl rfl rfl ?_
              refine w_iconst (nx := 147) C (nI 1) dX9_begins_146 rfl (by decide) ?_
              refine w_zast (nx := 148) (ws2 := [(a 0, mO a (upd (upd v 10 (nI (rsB r + 1))) 12 (nI (max (rsP r) d)))), (a 1, aI (kG κ) 800 f1), (a 17, aI (kG κ) 12 f17), (a 21, aI (kG κ) 12 f21), (a 22, aI (kG κ) 12 f22), (a 23, aI (kG κ) 12 f23), (a 24, aI (kG κ) 12 f24), (a 25, aI (kG κ) 12 f25), (a 26, aI (kG κ) 12 f26), (a 27, aI (kG κ) 12 f27), (a 28, aI (kG κ) 12 f28), (a 29, aZ (kG κ) 4 (upd f29 t (nI 1))), (a 31, aI (kG κ) 1300 f31), (a 32, aI (kG κ) 1300 f32), (a 33, aI (kG κ) 1300 f33), (a 34, aI (kG κ) 1300 f34), (a 35, aI (kG κ) 13000 f35), (a 36, aI (kG κ) 606 f36)]) C (nI 1) 11 t dX9_begins_147 rfl rfl (by decide) rfl (by omega) rfl rfl ?_
              refine w_aload_n (nx := 149) C 0 dX9_begins_148 rfl rfl rfl ?_
              refine w_iload (nx := 151) C 5 dX9_begins_149 rfl rfl ?_
              refine w_putM (nx := 154) (ws2 := [(a 0, mO a (upd (upd (upd v 10 (nI (rsB r + 1))) 12 (nI (max (rsP r) d))) 20 (nI d))), (a 1, aI (kG κ) 800 f1), (a 17, aI (kG κ) 12 f17), (a 21, aI (kG κ) 12 f21), (a 22, aI (kG κ) 12 f22), (a 23, aI (kG κ) 12 f23), (a 24, aI (kG κ) 12 f24), (a 25, aI (kG κ) 12 f25), (a 26, aI (kG κ) 12 f26), (a 27, aI (kG κ) 12 f27), (a 28, aI (kG κ) 12 f28), (a 29, aZ (kG κ) 4 (upd f29 t (nI 1))), (a 31, aI (kG κ) 1300 f31), (a 32, aI (kG κ) 1300 f32), (a 33, aI (kG κ) 1300 f33), (a 34, aI (kG κ) 1300 f34), (a 35, aI (kG κ) 13000 f35), (a 36, aI (kG κ) 606 f36)]) C 0 20 dX9_begins_151 rfl wl_X9_143 rfl (by decide) rfl rfl rfl (ms_20 _ _ _) rfl ?_
              refine w_aload_n (nx := 155) C 0 dX9_begins_154 rfl rfl rfl ?_
              refine w_getM (nx := 158) C (.ref (a 22)) 0 22 dX9_begins_155 rfl wl_X9_39 rfl (by decide) rfl (mg_22 _ _) ?_
              refine w_iload (nx := 160) C 5 dX9_begins_158 rfl rfl ?_
              refine w_iload_n (nx := 161) C 1 dX9_begins_160 rfl rfl rfl ?_
              refine w_iast (nx := 162) (ws2 := [(a 0, mO a (upd (upd (upd v 10 (nI (rsB r + 1))) 12 (nI (max (rsP r) d))) 20 (nI d))), (a 1, aI (kG κ) 800 f1), (a 17, aI (kG κ) 12 f17), (a 21, aI (kG κ) 12 f21), (a 22, aI (kG κ) 12 (upd f22 d (nI kd))), (a 23, aI (kG κ) 12 f23), (a 24, aI (kG κ) 12 f24), (a 25, aI (kG κ) 12 f25), (a 26, aI (kG κ) 12 f26), (a 27, aI (kG κ) 12 f27), (a 28, aI (kG κ) 12 f28), (a 29, aZ (kG κ) 4 (upd f29 t (nI 1))), (a 31, aI (kG κ) 1300 f31), (a 32, aI (kG κ) 1300 f32), (a 33, aI (kG κ) 1300 f33), (a 34, aI (kG κ) 1300 f34), (a 35, aI (kG κ) 13000 f35), (a 36, aI (kG κ) 606 f36)]) C 4 d dX9_begins_161 rfl rfl (by decide) rfl (by omega) rfl ?_
              refine w_aload_n (nx := 163) C 0 dX9_begins_162 rfl rfl rfl ?_
              refine w_getM (nx := 166) C (.ref (a 23)) 0 23 dX9_begins_163 rfl wl_X9_42 rfl (by decide) rfl (mg_23 _ _) ?_
              refine w_iload (nx := 168) C 5 dX9_begins_166 rfl rfl ?_
              refine w_iload_n (nx := 169) C 2 dX9_begins_168 rfl rfl rfl ?_
              refine w_iast (nx := 170) (ws2 := [(a 0, mO a (upd (upd (upd v 10 (nI (rsB r + 1))) 12 (nI (max (rsP r) d))) 20 (nI d))), (a 1, aI (kG κ) 800 f1), (a 17, aI (kG κ) 12 f17), (a 21, aI (kG κ) 12 f21), (a 22, aI (kG κ) 12 (upd f22 d (nI kd))), (a 23, aI (kG κ) 12 (upd f23 d (nI t))), (a 24, aI (kG κ) 12 f24), (a 25, aI (kG κ) 12 f25), (a 26, aI (kG κ) 12 f26), (a 27, aI (kG κ) 12 f27), (a 28, aI (kG κ) 12 f28), (a 29, aZ (kG κ) 4 (upd f29 t (nI 1))), (a 31, aI (kG κ) 1300 f31), (a 32, aI (kG κ) 1300 f32), (a 33, aI (kG κ) 1300 f33), (a 34, aI (kG κ) 1300 f34), (a 35, aI (kG κ) 13000 f35), (a 36, aI (kG κ) 606 f36)]) C 5 d dX9_begins_169 rfl rfl (by decide) rfl (by omega) rfl ?_
              refine w_aload_n (nx := 171) C 0 dX9_begins_170 rfl rfl rfl ?_
              refine w_getM (nx := 174) C (.ref (a 24)) 0 24 dX9_begins_171 rfl wl_X9_45 rfl (by decide) rfl (mg_24 _ _) ?_
              refine w_iload (nx := 176) C 5 dX9_begins_174 rfl rfl ?_
              refine w_iload_n (nx := 177) C 3 dX9_begins_176 rfl rfl rfl ?_
              refine w_iast (nx := 178) (ws2 := [(a 0, mO a (upd (upd (upd v 10 (nI (rsB r + 1))) 12 (nI (max (rsP r) d))) 20 (nI d))), (a 1, aI (kG κ) 800 f1), (a 17, aI (kG κ) 12 f17), (a 21, aI (kG κ) 12 f21), (a 22, aI (kG κ) 12 (upd f22 d (nI kd))), (a 23, aI (kG κ) 12 (upd f23 d (nI t))), (a 24, aI (kG κ) 12 (upd f24 d (nI ky))), (a 25, aI (kG κ) 12 f25), (a 26, aI (kG κ) 12 f26), (a 27, aI (kG κ) 12 f27), (a 28, aI (kG κ) 12 f28), (a 29, aZ (kG κ) 4 (upd f29 t (nI 1))), (a 31, aI (kG κ) 1300 f31), (a 32, aI (kG κ) 1300 f32), (a 33, aI (kG κ) 1300 f33), (a 34, aI (kG κ) 1300 f34), (a 35, aI (kG κ) 13000 f35), (a 36, aI (kG κ) 606 f36)]) C 6 d dX9_begins_177 rfl rfl (by decide) rfl (by omega) rfl ?_
              refine w_aload_n (nx := 179) C 0 dX9_begins_178 rfl rfl rfl ?_
              refine w_getM (nx := 182) C (.ref (a 25)) 0 25 dX9_begins_179 rfl wl_X9_48 rfl (by decide) rfl (mg_25 _ _) ?_
              refine w_iload (nx := 184) C 5 dX9_begins_182 rfl rfl ?_
              refine w_iload (nx := 186) C 4 dX9_begins_184 rfl rfl ?_
              refine w_iast (nx := 187) (ws2 := [(a 0, mO a (upd (upd (upd v 10 (nI (rsB r + 1))) 12 (nI (max (rsP r) d))) 20 (nI d))), (a 1, aI (kG κ) 800 f1), (a 17, aI (kG κ) 12 f17), (a 21, aI (kG κ) 12 f21), (a 22, aI (kG κ) 12 (upd f22 d (nI kd))), (a 23, aI (kG κ) 12 (upd f23 d (nI t))), (a 24, aI (kG κ) 12 (upd f24 d (nI ky))), (a 25, aI (kG κ) 12 (upd f25 d (nI nm))), (a 26, aI (kG κ) 12 f26), (a 27, aI (kG κ) 12 f27), (a 28, aI (kG κ) 12 f28), (a 29, aZ (kG κ) 4 (upd f29 t (nI 1))), (a 31, aI (kG κ) 1300 f31), (a 32, aI (kG κ) 1300 f32), (a 33, aI (kG κ) 1300 f33), (a 34, aI (kG κ) 1300 f34), (a 35, aI (kG κ) 13000 f35), (a 36, aI (kG κ) 606 f36)]) C 7 d dX9_begins_186 rfl rfl (by decide) rfl (by omega) rfl ?_
              refine w_aload_n (nx := 188) C 0 dX9_begins_187 rfl rfl rfl ?_
              refine w_getM (nx := 191) C (.ref (a 26)) 0 26 dX9_begins_188 rfl wl_X9_51 rfl (by decide) rfl (mg_26 _ _) ?_
              refine w_iload (nx := 193) C 5 dX9_begins_191 rfl rfl ?_
              refine w_iload_n (nx := 194) C 1 dX9_begins_193 rfl rfl rfl ?_
              refine n_if_ne (tg := 202) (nx := 197) C dX9_begins_194 rfl rfl (by omega) (fun h_8 => ?_) (fun h_8 => ?_)
              · have hk0 : ¬ kd = 0 := by omega
                obtain ⟨hw1, hw2, hw3⟩ := wgt_n hk0 hgw
                refine w_aload_n (nx := 203) C 0 dX9_begins_202 rfl rfl rfl ?_
                refine w_iload_n (nx := 204) C 2 dX9_begins_203 rfl rfl rfl ?_
                refine w_iload_n (nx := 205) C 3 dX9_begins_204 rfl rfl rfl ?_
                refine w_callV (nx := 208) (wr := [(a 17, aI (kG κ) 12 f17), (a 21, aI (kG κ) 12 f21), (a 22, aI (kG κ) 12 (upd f22 d (nI kd))), (a 23, aI (kG κ) 12 (upd f23 d (nI t))), (a 24, aI (kG κ) 12 (upd f24 d (nI ky))), (a 25, aI (kG κ) 12 (upd f25 d (nI nm))), (a 26, aI (kG κ) 12 f26), (a 27, aI (kG κ) 12 f27), (a 28, aI (kG κ) 12 f28), (a 29, aZ (kG κ) 4 (upd f29 t (nI 1))), (a 31, aI (kG κ) 1300 f31), (a 32, aI (kG κ) 1300 f32), (a 33, aI (kG κ) 1300 f33), (a 34, aI (kG κ) 1300 f34), (a 35, aI (kG κ) 13000 f35), (a 36, aI (kG κ) 606 f36)]) (rest := [.int (nI d), .ref (a 26)]) C mi_X9_numberOf (c_X9_numberOf _ _ a (upd (upd (upd v 10 (nI (rsB r + 1))) 12 (nI (max (rsP r) d))) 20 (nI d)) f1 (rsT r) t ky (hmT) (hwT) (by first | assumption | omega) (by first | assumption | omega)) 0 dX9_begins_205 rfl wl_X9_111 rfl rfl rfl (pm_sel [0, 1, 2, 3, 4, 5, 6, 7, 8, 9, 10, 11, 12, 13, 14, 15, 16, 17] 18 (by decide +kernel) rfl rfl) rfl rfl (Nat.le_of_ble_eq_true rfl) (Nat.le_of_ble_eq_true rfl) (Nat.le_of_ble_eq_true rfl) (Nat.zero_le _) (Nat.zero_le _) (fun v9 w9 R_9 => ?_)
                rcases R_9 with ⟨rfl, rfl, hpl⟩ | ⟨rfl, rfl, hpl⟩
                · show WW κ 0 0 [(a 0, mO a (upd (upd (upd v 10 (nI (rsB r + 1))) 12 (nI (max (rsP r) d))) 20 (nI d))), (a 1, aI (kG κ) 800 f1), (a 17, aI (kG κ) 12 f17), (a 21, aI (kG κ) 12 f21), (a 22, aI (kG κ) 12 (upd f22 d (nI kd))), (a 23, aI (kG κ) 12 (upd f23 d (nI t))), (a 24, aI (kG κ) 12 (upd f24 d (nI ky))), (a 25, aI (kG κ) 12 (upd f25 d (nI nm))), (a 26, aI (kG κ) 12 f26), (a 27, aI (kG κ) 12 f27), (a 28, aI (kG κ) 12 f28), (a 29, aZ (kG κ) 4 (upd f29 t (nI 1))), (a 31, aI (kG κ) 1300 f31), (a 32, aI (kG κ) 1300 f32), (a 33, aI (kG κ) 1300 f33), (a 34, aI (kG κ) 1300 f34), (a 35, aI (kG κ) 13000 f35), (a 36, aI (kG κ) 606 f36)] 208 [(0, .ref (a 0)), (1, .int (nI kd)), (2, .int (nI t)), (3, .int (nI ky)), (4, .int (nI nm)), (5, .int (nI d))] [.int (nI (nT (rsT r) t (plT (rsT r) t ky))), .int (nI d), .ref (a 26)]
                  refine w_iload_n (nx := 209) C 1 dX9_begins_208 rfl rfl rfl ?_
                  refine w_iconst (nx := 210) C (nI 1) dX9_begins_209 rfl (by decide) ?_
                  refine n_icmp_ne (tg := 218) (nx := 213) C dX9_begins_210 rfl rfl (by omega) (by omega) (fun h_10 => ?_) (fun h_10 => ?_)
                  · have hw4 := hw2 (by omega)
                    refine w_iconst (nx := 219) C (nI 0) dX9_begins_218 rfl (by decide) ?_
                    refine w_iadd (nx := 220) C (nI (nT (rsT r) t (plT (rsT r) t ky) + 0)) dX9_begins_219 rfl (nI_add _ _) ?_
                    refine w_top (nI w) (by rw [hw4]; exact congrArg nI (Nat.add_zero _)) ?_
                    have LP_11 : WW κ 0 0 [(a 0, mO a (upd (upd (upd v 10 (nI (rsB r + 1))) 12 (nI (max (rsP r) d))) 20 (nI d))), (a 1, aI (kG κ) 800 f1), (a 17, aI (kG κ) 12 f17), (a 21, aI (kG κ) 12 f21), (a 22, aI (kG κ) 12 (upd f22 d (nI kd))), (a 23, aI (kG κ) 12 (upd f23 d (nI t))), (a 24, aI (kG κ) 12 (upd f24 d (nI ky))), (a 25, aI (kG κ) 12 (upd f25 d (nI nm))), (a 26, aI (kG κ) 12 f26), (a 27, aI (kG κ) 12 f27), (a 28, aI (kG κ) 12 f28), (a 29, aZ (kG κ) 4 (upd f29 t (nI 1))), (a 31, aI (kG κ) 1300 f31), (a 32, aI (kG κ) 1300 f32), (a 33, aI (kG κ) 1300 f33), (a 34, aI (kG κ) 1300 f34), (a 35, aI (kG κ) 13000 f35), (a 36, aI (kG κ) 606 f36)] 220 [(0, .ref (a 0)), (1, .int (nI kd)), (2, .int (nI t)), (3, .int (nI ky)), (4, .int (nI nm)), (5, .int (nI d))] [.int (nI w), .int (nI d), .ref (a 26)] := by
                      skip
                      refine w_iast (nx := 221) (ws2 := [(a 0, mO a (upd (upd (upd v 10 (nI (rsB r + 1))) 12 (nI (max (rsP r) d))) 20 (nI d))), (a 1, aI (kG κ) 800 f1), (a 17, aI (kG κ) 12 f17), (a 21, aI (kG κ) 12 f21), (a 22, aI (kG κ) 12 (upd f22 d (nI kd))), (a 23, aI (kG κ) 12 (upd f23 d (nI t))), (a 24, aI (kG κ) 12 (upd f24 d (nI ky))), (a 25, aI (kG κ) 12 (upd f25 d (nI nm))), (a 26, aI (kG κ) 12 (upd f26 d (nI w))), (a 27, aI (kG κ) 12 f27), (a 28, aI (kG κ) 12 f28), (a 29, aZ (kG κ) 4 (upd f29 t (nI 1))), (a 31, aI (kG κ) 1300 f31), (a 32, aI (kG κ) 1300 f32), (a 33, aI (kG κ) 1300 f33), (a 34, aI (kG κ) 1300 f34), (a 35, aI (kG κ) 13000 f35), (a 36, aI (kG κ) 606 f36)]) C 8 d dX9_begins_220 rfl rfl (by decide) rfl (by omega) rfl ?_
                      refine w_aload_n (nx := 222) C 0 dX9_begins_221 rfl rfl rfl ?_
                      refine w_getM (nx := 225) C (.ref (a 27)) 0 27 dX9_begins_222 rfl wl_X9_54 rfl (by decide) rfl (mg_27 _ _) ?_
                      refine w_iload (nx := 227) C 5 dX9_begins_225 rfl rfl ?_
                      refine w_iconst (nx := 228) C (nI 0) dX9_begins_227 rfl (by decide) ?_
                      refine w_iast (nx := 229) (ws2 := [(a 0, mO a (upd (upd (upd v 10 (nI (rsB r + 1))) 12 (nI (max (rsP r) d))) 20 (nI d))), (a 1, aI (kG κ) 800 f1), (a 17, aI (kG κ) 12 f17), (a 21, aI (kG κ) 12 f21), (a 22, aI (kG κ) 12 (upd f22 d (nI kd))), (a 23, aI (kG κ) 12 (upd f23 d (nI t))), (a 24, aI (kG κ) 12 (upd f24 d (nI ky))), (a 25, aI (kG κ) 12 (upd f25 d (nI nm))), (a 26, aI (kG κ) 12 (upd f26 d (nI w))), (a 27, aI (kG κ) 12 (upd f27 d (nI 0))), (a 28, aI (kG κ) 12 f28), (a 29, aZ (kG κ) 4 (upd f29 t (nI 1))), (a 31, aI (kG κ) 1300 f31), (a 32, aI (kG κ) 1300 f32), (a 33, aI (kG κ) 1300 f33), (a 34, aI (kG κ) 1300 f34), (a 35, aI (kG κ) 13000 f35), (a 36, aI (kG κ) 606 f36)]) C 9 d dX9_begins_228 rfl rfl (by decide) rfl (by omega) rfl ?_
                      refine w_aload_n (nx := 230) C 0 dX9_begins_229 rfl rfl rfl ?_
                      refine w_getM (nx := 233) C (.ref (a 28)) 0 28 dX9_begins_230 rfl wl_X9_57 rfl (by decide) rfl (mg_28 _ _) ?_
                      refine w_iload (nx := 235) C 5 dX9_begins_233 rfl rfl ?_
                      refine w_iconst (nx := 236) C (nI 0) dX9_begins_235 rfl (by decide) ?_
                      refine w_iast (nx := 237) (ws2 := [(a 0, mO a (upd (upd (upd v 10 (nI (rsB r + 1))) 12 (nI (max (rsP r) d))) 20 (nI d))), (a 1, aI (kG κ) 800 f1), (a 17, aI (kG κ) 12 f17), (a 21, aI (kG κ) 12 f21), (a 22, aI (kG κ) 12 (upd f22 d (nI kd))), (a 23, aI (kG κ) 12 (upd f23 d (nI t))), (a 24, aI (kG κ) 12 (upd f24 d (nI ky))), (a 25, aI (kG κ) 12 (upd f25 d (nI nm))), (a 26, aI (kG κ) 12 (upd f26 d (nI w))), (a 27, aI (kG κ) 12 (upd f27 d (nI 0))), (a 28, aI (kG κ) 12 (upd f28 d (nI 0))), (a 29, aZ (kG κ) 4 (upd f29 t (nI 1))), (a 31, aI (kG κ) 1300 f31), (a 32, aI (kG κ) 1300 f32), (a 33, aI (kG κ) 1300 f33), (a 34, aI (kG κ) 1300 f34), (a 35, aI (kG κ) 13000 f35), (a 36, aI (kG κ) 606 f36)]) C 10 d dX9_begins_236 rfl rfl (by decide) rfl (by omega) rfl ?_
                      exact w_vret C E dX9_begins_237 rfl (Nat.le_refl _) (Nat.le_refl _) ⟨((kd, t, ky, nm, w, 0, 0, ch, f) :: fs), (begS r d), _, _, _, _, _, _, _, _, _, _, _, _, _, _, _, _, _, _, rfl, rfl, (MM_push (MM_beg hM hb1 (by omega : d ≤ 8)) hk ht hy hn hgw hc hd1 hx hp hl (by omega) hmt), (by rw [fin_push hr (by omega) (by omega) hmt hgw, hc]), (by show (100 - (rsB r + 1)) * 40 + (msL fs + ((3 - 0) * 13 - 0)) ≤ (100 - rsB r) * 40 + msL fs; omega)⟩
                    exact LP_11 
                  · have hw4 := hw3 (by omega)
                    refine w_iload (nx := 215) C 4 dX9_begins_213 rfl rfl ?_
                    refine w_goto (nx := 219) C dX9_begins_215 rfl ?_
                    refine w_iadd (nx := 220) C (nI (nT (rsT r) t (plT (rsT r) t ky) + nm)) dX9_begins_219 rfl (nI_add _ _) ?_
                    refine w_top (nI w) (by rw [hw4]) ?_
                    have LP_12 : WW κ 0 0 [(a 0, mO a (upd (upd (upd v 10 (nI (rsB r + 1))) 12 (nI (max (rsP r) d))) 20 (nI d))), (a 1, aI (kG κ) 800 f1), (a 17, aI (kG κ) 12 f17), (a 21, aI (kG κ) 12 f21), (a 22, aI (kG κ) 12 (upd f22 d (nI kd))), (a 23, aI (kG κ) 12 (upd f23 d (nI t))), (a 24, aI (kG κ) 12 (upd f24 d (nI ky))), (a 25, aI (kG κ) 12 (upd f25 d (nI nm))), (a 26, aI (kG κ) 12 f26), (a 27, aI (kG κ) 12 f27), (a 28, aI (kG κ) 12 f28), (a 29, aZ (kG κ) 4 (upd f29 t (nI 1))), (a 31, aI (kG κ) 1300 f31), (a 32, aI (kG κ) 1300 f32), (a 33, aI (kG κ) 1300 f33), (a 34, aI (kG κ) 1300 f34), (a 35, aI (kG κ) 13000 f35), (a 36, aI (kG κ) 606 f36)] 220 [(0, .ref (a 0)), (1, .int (nI kd)), (2, .int (nI t)), (3, .int (nI ky)), (4, .int (nI nm)), (5, .int (nI d))] [.int (nI w), .int (nI d), .ref (a 26)] := by
                      skip
                      refine w_iast (nx := 221) (ws2 := [(a 0, mO a (upd (upd (upd v 10 (nI (rsB r + 1))) 12 (nI (max (rsP r) d))) 20 (nI d))), (a 1, aI (kG κ) 800 f1), (a 17, aI (kG κ) 12 f17), (a 21, aI (kG κ) 12 f21), (a 22, aI (kG κ) 12 (upd f22 d (nI kd))), (a 23, aI (kG κ) 12 (upd f23 d (nI t))), (a 24, aI (kG κ) 12 (upd f24 d (nI ky))), (a 25, aI (kG κ) 12 (upd f25 d (nI nm))), (a 26, aI (kG κ) 12 (upd f26 d (nI w))), (a 27, aI (kG κ) 12 f27), (a 28, aI (kG κ) 12 f28), (a 29, aZ (kG κ) 4 (upd f29 t (nI 1))), (a 31, aI (kG κ) 1300 f31), (a 32, aI (kG κ) 1300 f32), (a 33, aI (kG κ) 1300 f33), (a 34, aI (kG κ) 1300 f34), (a 35, aI (kG κ) 13000 f35), (a 36, aI (kG κ) 606 f36)]) C 8 d dX9_begins_220 rfl rfl (by decide) rfl (by omega) rfl ?_
                      refine w_aload_n (nx := 222) C 0 dX9_begins_221 rfl rfl rfl ?_
                      refine w_getM (nx := 225) C (.ref (a 27)) 0 27 dX9_begins_222 rfl wl_X9_54 rfl (by decide) rfl (mg_27 _ _) ?_
                      refine w_iload (nx := 227) C 5 dX9_begins_225 rfl rfl ?_
                      refine w_iconst (nx := 228) C (nI 0) dX9_begins_227 rfl (by decide) ?_
                      refine w_iast (nx := 229) (ws2 := [(a 0, mO a (upd (upd (upd v 10 (nI (rsB r + 1))) 12 (nI (max (rsP r) d))) 20 (nI d))), (a 1, aI (kG κ) 800 f1), (a 17, aI (kG κ) 12 f17), (a 21, aI (kG κ) 12 f21), (a 22, aI (kG κ) 12 (upd f22 d (nI kd))), (a 23, aI (kG κ) 12 (upd f23 d (nI t))), (a 24, aI (kG κ) 12 (upd f24 d (nI ky))), (a 25, aI (kG κ) 12 (upd f25 d (nI nm))), (a 26, aI (kG κ) 12 (upd f26 d (nI w))), (a 27, aI (kG κ) 12 (upd f27 d (nI 0))), (a 28, aI (kG κ) 12 f28), (a 29, aZ (kG κ) 4 (upd f29 t (nI 1))), (a 31, aI (kG κ) 1300 f31), (a 32, aI (kG κ) 1300 f32), (a 33, aI (kG κ) 1300 f33), (a 34, aI (kG κ) 1300 f34), (a 35, aI (kG κ) 13000 f35), (a 36, aI (kG κ) 606 f36)]) C 9 d dX9_begins_228 rfl rfl (by decide) rfl (by omega) rfl ?_
                      refine w_aload_n (nx := 230) C 0 dX9_begins_229 rfl rfl rfl ?_
                      refine w_getM (nx := 233) C (.ref (a 28)) 0 28 dX9_begins_230 rfl wl_X9_57 rfl (by decide) rfl (mg_28 _ _) ?_
                      refine w_iload (nx := 235) C 5 dX9_begins_233 rfl rfl ?_
                      refine w_iconst (nx := 236) C (nI 0) dX9_begins_235 rfl (by decide) ?_
                      refine w_iast (nx := 237) (ws2 := [(a 0, mO a (upd (upd (upd v 10 (nI (rsB r + 1))) 12 (nI (max (rsP r) d))) 20 (nI d))), (a 1, aI (kG κ) 800 f1), (a 17, aI (kG κ) 12 f17), (a 21, aI (kG κ) 12 f21), (a 22, aI (kG κ) 12 (upd f22 d (nI kd))), (a 23, aI (kG κ) 12 (upd f23 d (nI t))), (a 24, aI (kG κ) 12 (upd f24 d (nI ky))), (a 25, aI (kG κ) 12 (upd f25 d (nI nm))), (a 26, aI (kG κ) 12 (upd f26 d (nI w))), (a 27, aI (kG κ) 12 (upd f27 d (nI 0))), (a 28, aI (kG κ) 12 (upd f28 d (nI 0))), (a 29, aZ (kG κ) 4 (upd f29 t (nI 1))), (a 31, aI (kG κ) 1300 f31), (a 32, aI (kG κ) 1300 f32), (a 33, aI (kG κ) 1300 f33), (a 34, aI (kG κ) 1300 f34), (a 35, aI (kG κ) 13000 f35), (a 36, aI (kG κ) 606 f36)]) C 10 d dX9_begins_236 rfl rfl (by decide) rfl (by omega) rfl ?_
                      exact w_vret C E dX9_begins_237 rfl (Nat.le_refl _) (Nat.le_refl _) ⟨((kd, t, ky, nm, w, 0, 0, ch, f) :: fs), (begS r d), _, _, _, _, _, _, _, _, _, _, _, _, _, _, _, _, _, _, rfl, rfl, (MM_push (MM_beg hM hb1 (by omega : d ≤ 8)) hk ht hy hn hgw hc hd1 hx hp hl (by omega) hmt), (by rw [fin_push hr (by omega) (by omega) hmt hgw, hc]), (by show (100 - (rsB r + 1)) * 40 + (msL fs + ((3 - 0) * 13 - 0)) ≤ (100 - rsB r) * 40 + msL fs; omega)⟩
                    exact LP_12 
                · show WW κ 0 0 [(a 0, mO a (upd (upd (upd v 10 (nI (rsB r + 1))) 12 (nI (max (rsP r) d))) 20 (nI d))), (a 1, aI (kG κ) 800 f1), (a 17, aI (kG κ) 12 f17), (a 21, aI (kG κ) 12 f21), (a 22, aI (kG κ) 12 (upd f22 d (nI kd))), (a 23, aI (kG κ) 12 (upd f23 d (nI t))), (a 24, aI (kG κ) 12 (upd f24 d (nI ky))), (a 25, aI (kG κ) 12 (upd f25 d (nI nm))), (a 26, aI (kG κ) 12 f26), (a 27, aI (kG κ) 12 f27), (a 28, aI (kG κ) 12 f28), (a 29, aZ (kG κ) 4 (upd f29 t (nI 1))), (a 31, aI (kG κ) 1300 f31), (a 32, aI (kG κ) 1300 f32), (a 33, aI (kG κ) 1300 f33), (a 34, aI (kG κ) 1300 f34), (a 35, aI (kG κ) 13000 f35), (a 36, aI (kG κ) 606 f36)] 208 [(0, .ref (a 0)), (1, .int (nI kd)), (2, .int (nI t)), (3, .int (nI ky)), (4, .int (nI nm)), (5, .int (nI d))] [.int (-6), .int (nI d), .ref (a 26)]
                  exfalso; omega
              · have hk0 : kd = 0 := by omega
                obtain ⟨hw1, hw2, hw3⟩ := wgt_0 hk0 hgw
                refine w_iload (nx := 199) C 4 dX9_begins_197 rfl rfl ?_
                refine w_goto (nx := 220) C dX9_begins_199 rfl ?_
                refine w_top (nI w) (by rw [hw3]) ?_
                have LP_13 : WW κ 0 0 [(a 0, mO a (upd (upd (upd v 10 (nI (rsB r + 1))) 12 (nI (max (rsP r) d))) 20 (nI d))), (a 1, aI (kG κ) 800 f1), (a 17, aI (kG κ) 12 f17), (a 21, aI (kG κ) 12 f21), (a 22, aI (kG κ) 12 (upd f22 d (nI kd))), (a 23, aI (kG κ) 12 (upd f23 d (nI t))), (a 24, aI (kG κ) 12 (upd f24 d (nI ky))), (a 25, aI (kG κ) 12 (upd f25 d (nI nm))), (a 26, aI (kG κ) 12 f26), (a 27, aI (kG κ) 12 f27), (a 28, aI (kG κ) 12 f28), (a 29, aZ (kG κ) 4 (upd f29 t (nI 1))), (a 31, aI (kG κ) 1300 f31), (a 32, aI (kG κ) 1300 f32), (a 33, aI (kG κ) 1300 f33), (a 34, aI (kG κ) 1300 f34), (a 35, aI (kG κ) 13000 f35), (a 36, aI (kG κ) 606 f36)] 220 [(0, .ref (a 0)), (1, .int (nI kd)), (2, .int (nI t)), (3, .int (nI ky)), (4, .int (nI nm)), (5, .int (nI d))] [.int (nI w), .int (nI d), .ref (a 26)] := by
                  skip
                  refine w_iast (nx := 221) (ws2 := [(a 0, mO a (upd (upd (upd v 10 (nI (rsB r + 1))) 12 (nI (max (rsP r) d))) 20 (nI d))), (a 1, aI (kG κ) 800 f1), (a 17, aI (kG κ) 12 f17), (a 21, aI (kG κ) 12 f21), (a 22, aI (kG κ) 12 (upd f22 d (nI kd))), (a 23, aI (kG κ) 12 (upd f23 d (nI t))), (a 24, aI (kG κ) 12 (upd f24 d (nI ky))), (a 25, aI (kG κ) 12 (upd f25 d (nI nm))), (a 26, aI (kG κ) 12 (upd f26 d (nI w))), (a 27, aI (kG κ) 12 f27), (a 28, aI (kG κ) 12 f28), (a 29, aZ (kG κ) 4 (upd f29 t (nI 1))), (a 31, aI (kG κ) 1300 f31), (a 32, aI (kG κ) 1300 f32), (a 33, aI (kG κ) 1300 f33), (a 34, aI (kG κ) 1300 f34), (a 35, aI (kG κ) 13000 f35), (a 36, aI (kG κ) 606 f36)]) C 8 d dX9_begins_220 rfl rfl (by decide) rfl (by omega) rfl ?_
                  refine w_aload_n (nx := 222) C 0 dX9_begins_221 rfl rfl rfl ?_
                  refine w_getM (nx := 225) C (.ref (a 27)) 0 27 dX9_begins_222 rfl wl_X9_54 rfl (by decide) rfl (mg_27 _ _) ?_
                  refine w_iload (nx := 227) C 5 dX9_begins_225 rfl rfl ?_
                  refine w_iconst (nx := 228) C (nI 0) dX9_begins_227 rfl (by decide) ?_
                  refine w_iast (nx := 229) (ws2 := [(a 0, mO a (upd (upd (upd v 10 (nI (rsB r + 1))) 12 (nI (max (rsP r) d))) 20 (nI d))), (a 1, aI (kG κ) 800 f1), (a 17, aI (kG κ) 12 f17), (a 21, aI (kG κ) 12 f21), (a 22, aI (kG κ) 12 (upd f22 d (nI kd))), (a 23, aI (kG κ) 12 (upd f23 d (nI t))), (a 24, aI (kG κ) 12 (upd f24 d (nI ky))), (a 25, aI (kG κ) 12 (upd f25 d (nI nm))), (a 26, aI (kG κ) 12 (upd f26 d (nI w))), (a 27, aI (kG κ) 12 (upd f27 d (nI 0))), (a 28, aI (kG κ) 12 f28), (a 29, aZ (kG κ) 4 (upd f29 t (nI 1))), (a 31, aI (kG κ) 1300 f31), (a 32, aI (kG κ) 1300 f32), (a 33, aI (kG κ) 1300 f33), (a 34, aI (kG κ) 1300 f34), (a 35, aI (kG κ) 13000 f35), (a 36, aI (kG κ) 606 f36)]) C 9 d dX9_begins_228 rfl rfl (by decide) rfl (by omega) rfl ?_
                  refine w_aload_n (nx := 230) C 0 dX9_begins_229 rfl rfl rfl ?_
                  refine w_getM (nx := 233) C (.ref (a 28)) 0 28 dX9_begins_230 rfl wl_X9_57 rfl (by decide) rfl (mg_28 _ _) ?_
                  refine w_iload (nx := 235) C 5 dX9_begins_233 rfl rfl ?_
                  refine w_iconst (nx := 236) C (nI 0) dX9_begins_235 rfl (by decide) ?_
                  refine w_iast (nx := 237) (ws2 := [(a 0, mO a (upd (upd (upd v 10 (nI (rsB r + 1))) 12 (nI (max (rsP r) d))) 20 (nI d))), (a 1, aI (kG κ) 800 f1), (a 17, aI (kG κ) 12 f17), (a 21, aI (kG κ) 12 f21), (a 22, aI (kG κ) 12 (upd f22 d (nI kd))), (a 23, aI (kG κ) 12 (upd f23 d (nI t))), (a 24, aI (kG κ) 12 (upd f24 d (nI ky))), (a 25, aI (kG κ) 12 (upd f25 d (nI nm))), (a 26, aI (kG κ) 12 (upd f26 d (nI w))), (a 27, aI (kG κ) 12 (upd f27 d (nI 0))), (a 28, aI (kG κ) 12 (upd f28 d (nI 0))), (a 29, aZ (kG κ) 4 (upd f29 t (nI 1))), (a 31, aI (kG κ) 1300 f31), (a 32, aI (kG κ) 1300 f32), (a 33, aI (kG κ) 1300 f33), (a 34, aI (kG κ) 1300 f34), (a 35, aI (kG κ) 13000 f35), (a 36, aI (kG κ) 606 f36)]) C 10 d dX9_begins_236 rfl rfl (by decide) rfl (by omega) rfl ?_
                  exact w_vret C E dX9_begins_237 rfl (Nat.le_refl _) (Nat.le_refl _) ⟨((kd, t, ky, nm, w, 0, 0, ch, f) :: fs), (begS r d), _, _, _, _, _, _, _, _, _, _, _, _, _, _, _, _, _, _, rfl, rfl, (MM_push (MM_beg hM hb1 (by omega : d ≤ 8)) hk ht hy hn hgw hc hd1 hx hp hl (by omega) hmt), (by rw [fin_push hr (by omega) (by omega) hmt hgw, hc]), (by show (100 - (rsB r + 1)) * 40 + (msL fs + ((3 - 0) * 13 - 0)) ≤ (100 - rsB r) * 40 + msL fs; omega)⟩
                exact LP_13 
            · have hgw := Classical.not_not.mp h_7
              refine w_iload (nx := 105) C 5 dX9_begins_103 rfl rfl ?_
              refine n_if_le (tg := 131) (nx := 108) C dX9_begins_105 rfl rfl (by omega) (fun h_14 => ?_) (fun h_14 => ?_)
              · have hlf : ¬ (ch ≠ [] ∧ cL g = 1) := fun z => z.1 (List.length_eq_zero_iff.mp (by omega))
                refine w_aload_n (nx := 132) C 0 dX9_begins_131 rfl rfl rfl ?_
                refine w_iconst (nx := 133) C (nI 4) dX9_begins_132 rfl (by decide) ?_
                refine w_iload_n (nx := 134) C 2 dX9_begins_133 rfl rfl rfl ?_
                refine w_iload_n (nx := 135) C 3 dX9_begins_134 rfl rfl rfl ?_
                refine w_iload (nx := 137) C 5 dX9_begins_135 rfl rfl ?_
                refine w_callV (nx := 140) (wr := [(a 1, aI (kG κ) 800 f1), (a 22, aI (kG κ) 12 f22), (a 23, aI (kG κ) 12 f23), (a 24, aI (kG κ) 12 f24), (a 25, aI (kG κ) 12 f25), (a 26, aI (kG κ) 12 f26), (a 27, aI (kG κ) 12 f27), (a 28, aI (kG κ) 12 f28), (a 29, aZ (kG κ) 4 f29), (a 31, aI (kG κ) 1300 f31), (a 32, aI (kG κ) 1300 f32), (a 33, aI (kG κ) 1300 f33), (a 34, aI (kG κ) 1300 f34), (a 35, aI (kG κ) 13000 f35), (a 36, aI (kG κ) 606 f36)]) (rest := []) C mi_X9_fails (c_X9_fails _ _ a (upd (upd v 10 (nI (rsB r + 1))) 12 (nI (max (rsP r) d))) f17 f21 4 t ky d (by first | assumption | omega)) 0 dX9_begins_137 rfl wl_X9_126 rfl rfl rfl (pm_sel [0, 2, 3, 1, 4, 5, 6, 7, 8, 9, 10, 11, 12, 13, 14, 15, 16, 17] 18 (by decide +kernel) rfl rfl) rfl rfl (Nat.le_of_ble_eq_true rfl) (Nat.le_of_ble_eq_true rfl) (Nat.le_of_ble_eq_true rfl) (Nat.zero_le _) (Nat.zero_le _) (fun v9 w9 R_15 => ?_)
                obtain ⟨gA, rfl, rfl, hgA⟩ := R_15
                show WW κ 0 0 [(a 0, mO a (upd (upd (upd (upd (upd (upd v 10 (nI (rsB r + 1))) 12 (nI (max (rsP r) d))) 9 (nI 4)) 14 (nI t)) 15 (nI ky)) 16 (nI d))), (a 17, aI (kG κ) 12 gA), (a 21, aI (kG κ) 12 f21), (a 1, aI (kG κ) 800 f1), (a 22, aI (kG κ) 12 f22), (a 23, aI (kG κ) 12 f23), (a 24, aI (kG κ) 12 f24), (a 25, aI (kG κ) 12 f25), (a 26, aI (kG κ) 12 f26), (a 27, aI (kG κ) 12 f27), (a 28, aI (kG κ) 12 f28), (a 29, aZ (kG κ) 4 f29), (a 31, aI (kG κ) 1300 f31), (a 32, aI (kG κ) 1300 f32), (a 33, aI (kG κ) 1300 f33), (a 34, aI (kG κ) 1300 f34), (a 35, aI (kG κ) 13000 f35), (a 36, aI (kG κ) 606 f36)] 140 [(0, .ref (a 0)), (1, .int (nI kd)), (2, .int (nI t)), (3, .int (nI ky)), (4, .int (nI nm)), (5, .int (nI d))] []
                refine ww_sel (l := [(a 0, mO a (upd (upd (upd (upd (upd (upd v 10 (nI (rsB r + 1))) 12 (nI (max (rsP r) d))) 9 (nI 4)) 14 (nI t)) 15 (nI ky)) 16 (nI d))), (a 1, aI (kG κ) 800 f1), (a 17, aI (kG κ) 12 gA), (a 21, aI (kG κ) 12 f21), (a 22, aI (kG κ) 12 f22), (a 23, aI (kG κ) 12 f23), (a 24, aI (kG κ) 12 f24), (a 25, aI (kG κ) 12 f25), (a 26, aI (kG κ) 12 f26), (a 27, aI (kG κ) 12 f27), (a 28, aI (kG κ) 12 f28), (a 29, aZ (kG κ) 4 f29), (a 31, aI (kG κ) 1300 f31), (a 32, aI (kG κ) 1300 f32), (a 33, aI (kG κ) 1300 f33), (a 34, aI (kG κ) 1300 f34), (a 35, aI (kG κ) 13000 f35), (a 36, aI (kG κ) 606 f36)]) (pm_sel [0, 3, 1, 2, 4, 5, 6, 7, 8, 9, 10, 11, 12, 13, 14, 15, 16, 17] 18 (by decide +kernel) rfl rfl) ?_
                exact w_vret C E dX9_begins_140 rfl (Nat.le_refl _) (Nat.le_refl _) ⟨fs, (failS (begS r d) 4 t ky ch), _, _, _, _, _, _, _, _, _, _, _, _, _, _, _, _, _, _, rfl, rfl, (MM_fail (MM_beg hM hb1 (by omega : d ≤ 8)) (by decide) (by decide) ht hy hc (by omega) hx hp hgA), (by subst hc; exact congrArg (finS g fs) (car_5 (by omega) (by omega) hmt hgw hlf)), (by show (100 - (rsB r + 1)) * 40 + msL fs ≤ (100 - rsB r) * 40 + msL fs; omega)⟩
              · refine w_aload_n (nx := 109) C 0 dX9_begins_108 rfl rfl rfl ?_
                refine w_getM (nx := 112) C (.ref (a 1)) 0 1 dX9_begins_109 rfl wl_X9_7 rfl (by decide) rfl (mg_1 _ _) ?_
                refine w_iconst (nx := 113) C (nI 1) dX9_begins_112 rfl (by decide) ?_
                refine w_iald (nx := 114) C (nI (cL g)) 1 1 dX9_begins_113 rfl rfl (by decide) rfl (by omega) hf1 ?_
                refine w_iconst (nx := 115) C (nI 1) dX9_begins_114 rfl (by decide) ?_
                refine n_icmp_ne (tg := 131) (nx := 118) C dX9_begins_115 rfl rfl (by omega) (by omega) (fun h_16 => ?_) (fun h_16 => ?_)
                · have hlf : ¬ (ch ≠ [] ∧ cL g = 1) := fun z => by omega
                  refine w_aload_n (nx := 132) C 0 dX9_begins_131 rfl rfl rfl ?_
                  refine w_iconst (nx := 133) C (nI 4) dX9_begins_132 rfl (by decide) ?_
                  refine w_iload_n (nx := 134) C 2 dX9_begins_133 rfl rfl rfl ?_
                  refine w_iload_n (nx := 135) C 3 dX9_begins_134 rfl rfl rfl ?_
                  refine w_iload (nx := 137) C 5 dX9_begins_135 rfl rfl ?_
                  refine w_callV (nx := 140) (wr := [(a 1, aI (kG κ) 800 f1), (a 22, aI (kG κ) 12 f22), (a 23, aI (kG κ) 12 f23), (a 24, aI (kG κ) 12 f24), (a 25, aI (kG κ) 12 f25), (a 26, aI (kG κ) 12 f26), (a 27, aI (kG κ) 12 f27), (a 28, aI (kG κ) 12 f28), (a 29, aZ (kG κ) 4 f29), (a 31, aI (kG κ) 1300 f31), (a 32, aI (kG κ) 1300 f32), (a 33, aI (kG κ) 1300 f33), (a 34, aI (kG κ) 1300 f34), (a 35, aI (kG κ) 13000 f35), (a 36, aI (kG κ) 606 f36)]) (rest := []) C mi_X9_fails (c_X9_fails _ _ a (upd (upd v 10 (nI (rsB r + 1))) 12 (nI (max (rsP r) d))) f17 f21 4 t ky d (by first | assumption | omega)) 0 dX9_begins_137 rfl wl_X9_126 rfl rfl rfl (pm_sel [0, 2, 3, 1, 4, 5, 6, 7, 8, 9, 10, 11, 12, 13, 14, 15, 16, 17] 18 (by decide +kernel) rfl rfl) rfl rfl (Nat.le_of_ble_eq_true rfl) (Nat.le_of_ble_eq_true rfl) (Nat.le_of_ble_eq_true rfl) (Nat.zero_le _) (Nat.zero_le _) (fun v9 w9 R_17 => ?_)
                  obtain ⟨gA, rfl, rfl, hgA⟩ := R_17
                  show WW κ 0 0 [(a 0, mO a (upd (upd (upd (upd (upd (upd v 10 (nI (rsB r + 1))) 12 (nI (max (rsP r) d))) 9 (nI 4)) 14 (nI t)) 15 (nI ky)) 16 (nI d))), (a 17, aI (kG κ) 12 gA), (a 21, aI (kG κ) 12 f21), (a 1, aI (kG κ) 800 f1), (a 22, aI (kG κ) 12 f22), (a 23, aI (kG κ) 12 f23), (a 24, aI (kG κ) 12 f24), (a 25, aI (kG κ) 12 f25), (a 26, aI (kG κ) 12 f26), (a 27, aI (kG κ) 12 f27), (a 28, aI (kG κ) 12 f28), (a 29, aZ (kG κ) 4 f29), (a 31, aI (kG κ) 1300 f31), (a 32, aI (kG κ) 1300 f32), (a 33, aI (kG κ) 1300 f33), (a 34, aI (kG κ) 1300 f34), (a 35, aI (kG κ) 13000 f35), (a 36, aI (kG κ) 606 f36)] 140 [(0, .ref (a 0)), (1, .int (nI kd)), (2, .int (nI t)), (3, .int (nI ky)), (4, .int (nI nm)), (5, .int (nI d))] []
                  refine ww_sel (l := [(a 0, mO a (upd (upd (upd (upd (upd (upd v 10 (nI (rsB r + 1))) 12 (nI (max (rsP r) d))) 9 (nI 4)) 14 (nI t)) 15 (nI ky)) 16 (nI d))), (a 1, aI (kG κ) 800 f1), (a 17, aI (kG κ) 12 gA), (a 21, aI (kG κ) 12 f21), (a 22, aI (kG κ) 12 f22), (a 23, aI (kG κ) 12 f23), (a 24, aI (kG κ) 12 f24), (a 25, aI (kG κ) 12 f25), (a 26, aI (kG κ) 12 f26), (a 27, aI (kG κ) 12 f27), (a 28, aI (kG κ) 12 f28), (a 29, aZ (kG κ) 4 f29), (a 31, aI (kG κ) 1300 f31), (a 32, aI (kG κ) 1300 f32), (a 33, aI (kG κ) 1300 f33), (a 34, aI (kG κ) 1300 f34), (a 35, aI (kG κ) 13000 f35), (a 36, aI (kG κ) 606 f36)]) (pm_sel [0, 3, 1, 2, 4, 5, 6, 7, 8, 9, 10, 11, 12, 13, 14, 15, 16, 17] 18 (by decide +kernel) rfl rfl) ?_
                  exact w_vret C E dX9_begins_140 rfl (Nat.le_refl _) (Nat.le_refl _) ⟨fs, (failS (begS r d) 4 t ky ch), _, _, _, _, _, _, _, _, _, _, _, _, _, _, _, _, _, _, rfl, rfl, (MM_fail (MM_beg hM hb1 (by omega : d ≤ 8)) (by decide) (by decide) ht hy hc (by omega) hx hp hgA), (by subst hc; exact congrArg (finS g fs) (car_5 (by omega) (by omega) hmt hgw hlf)), (by show (100 - (rsB r + 1)) * 40 + msL fs ≤ (100 - rsB r) * 40 + msL fs; omega)⟩
                · have hlf : ch ≠ [] ∧ cL g = 1 := ⟨fun z => by subst z; exact absurd hc (by show ¬ 0 = d; omega), by omega⟩
                  refine w_aload_n (nx := 119) C 0 dX9_begins_118 rfl rfl rfl ?_
                  refine w_dup (nx := 120) C dX9_begins_119 rfl rfl ?_
                  refine w_getM (nx := 123) C (.int (v 11)) 0 11 dX9_begins_120 rfl wl_X9_140 rfl (by decide) rfl (mg_11 _ _) ?_
                  refine w_top (nI (rsL r)) hv11 ?_
                  refine w_iconst (nx := 124) C (nI 1) dX9_begins_123 rfl (by decide) ?_
                  refine w_iadd (nx := 125) C (nI (rsL r + 1)) dX9_begins_124 rfl (nI_add _ _) ?_
                  refine w_putM (nx := 128) (ws2 := [(a 0, mO a (upd (upd (upd v 10 (nI (rsB r + 1))) 12 (nI (max (rsP r) d))) 11 (nI (rsL r + 1)))), (a 1, aI (kG κ) 800 f1), (a 17, aI (kG κ) 12 f17), (a 21, aI (kG κ) 12 f21), (a 22, aI (kG κ) 12 f22), (a 23, aI (kG κ) 12 f23), (a 24, aI (kG κ) 12 f24), (a 25, aI (kG κ) 12 f25), (a 26, aI (kG κ) 12 f26), (a 27, aI (kG κ) 12 f27), (a 28, aI (kG κ) 12 f28), (a 29, aZ (kG κ) 4 f29), (a 31, aI (kG κ) 1300 f31), (a 32, aI (kG κ) 1300 f32), (a 33, aI (kG κ) 1300 f33), (a 34, aI (kG κ) 1300 f34), (a 35, aI (kG κ) 13000 f35), (a 36, aI (kG κ) 606 f36)]) C 0 11 dX9_begins_125 rfl wl_X9_140 rfl (by decide) rfl rfl rfl (ms_11 _ _ _) rfl ?_
                  refine w_goto (nx := 140) C dX9_begins_128 rfl ?_
                  exact w_vret C E dX9_begins_140 rfl (Nat.le_refl _) (Nat.le_refl _) ⟨fs, (lftS (begS r d)), _, _, _, _, _, _, _, _, _, _, _, _, _, _, _, _, _, _, rfl, rfl, (MM_lft (MM_beg hM hb1 (by omega : d ≤ 8))), (by subst hc; exact congrArg (finS g fs) (car_4 (by omega) (by omega) hmt hgw hlf)), (by show (100 - (rsB r + 1)) * 40 + msL fs ≤ (100 - rsB r) * 40 + msL fs; omega)⟩
          · have hmt := h_5
            refine w_aload_n (nx := 82) C 0 dX9_begins_81 rfl rfl rfl ?_
            refine w_iconst (nx := 83) C (nI 3) dX9_begins_82 rfl (by decide) ?_
            refine w_iload_n (nx := 84) C 2 dX9_begins_83 rfl rfl rfl ?_
            refine w_iload_n (nx := 85) C 3 dX9_begins_84 rfl rfl rfl ?_
            refine w_iload (nx := 87) C 5 dX9_begins_85 rfl rfl ?_
            refine w_callV (nx := 90) (wr := [(a 1, aI (kG κ) 800 f1), (a 22, aI (kG κ) 12 f22), (a 23, aI (kG κ) 12 f23), (a 24, aI (kG κ) 12 f24), (a 25, aI (kG κ) 12 f25), (a 26, aI (kG κ) 12 f26), (a 27, aI (kG κ) 12 f27), (a 28, aI (kG κ) 12 f28), (a 29, aZ (kG κ) 4 f29), (a 31, aI (kG κ) 1300 f31), (a 32, aI (kG κ) 1300 f32), (a 33, aI (kG κ) 1300 f33), (a 34, aI (kG κ) 1300 f34), (a 35, aI (kG κ) 13000 f35), (a 36, aI (kG κ) 606 f36)]) (rest := []) C mi_X9_fails (c_X9_fails _ _ a (upd (upd v 10 (nI (rsB r + 1))) 12 (nI (max (rsP r) d))) f17 f21 3 t ky d (by first | assumption | omega)) 0 dX9_begins_87 rfl wl_X9_126 rfl rfl rfl (pm_sel [0, 2, 3, 1, 4, 5, 6, 7, 8, 9, 10, 11, 12, 13, 14, 15, 16, 17] 18 (by decide +kernel) rfl rfl) rfl rfl (Nat.le_of_ble_eq_true rfl) (Nat.le_of_ble_eq_true rfl) (Nat.le_of_ble_eq_true rfl) (Nat.zero_le _) (Nat.zero_le _) (fun v9 w9 R_18 => ?_)
            obtain ⟨gA, rfl, rfl, hgA⟩ := R_18
            show WW κ 0 0 [(a 0, mO a (upd (upd (upd (upd (upd (upd v 10 (nI (rsB r + 1))) 12 (nI (max (rsP r) d))) 9 (nI 3)) 14 (nI t)) 15 (nI ky)) 16 (nI d))), (a 17, aI (kG κ) 12 gA), (a 21, aI (kG κ) 12 f21), (a 1, aI (kG κ) 800 f1), (a 22, aI (kG κ) 12 f22), (a 23, aI (kG κ) 12 f23), (a 24, aI (kG κ) 12 f24), (a 25, aI (kG κ) 12 f25), (a 26, aI (kG κ) 12 f26), (a 27, aI (kG κ) 12 f27), (a 28, aI (kG κ) 12 f28), (a 29, aZ (kG κ) 4 f29), (a 31, aI (kG κ) 1300 f31), (a 32, aI (kG κ) 1300 f32), (a 33, aI (kG κ) 1300 f33), (a 34, aI (kG κ) 1300 f34), (a 35, aI (kG κ) 13000 f35), (a 36, aI (kG κ) 606 f36)] 90 [(0, .ref (a 0)), (1, .int (nI kd)), (2, .int (nI t)), (3, .int (nI ky)), (4, .int (nI nm)), (5, .int (nI d))] []
            refine ww_sel (l := [(a 0, mO a (upd (upd (upd (upd (upd (upd v 10 (nI (rsB r + 1))) 12 (nI (max (rsP r) d))) 9 (nI 3)) 14 (nI t)) 15 (nI ky)) 16 (nI d))), (a 1, aI (kG κ) 800 f1), (a 17, aI (kG κ) 12 gA), (a 21, aI (kG κ) 12 f21), (a 22, aI (kG κ) 12 f22), (a 23, aI (kG κ) 12 f23), (a 24, aI (kG κ) 12 f24), (a 25, aI (kG κ) 12 f25), (a 26, aI (kG κ) 12 f26), (a 27, aI (kG κ) 12 f27), (a 28, aI (kG κ) 12 f28), (a 29, aZ (kG κ) 4 f29), (a 31, aI (kG κ) 1300 f31), (a 32, aI (kG κ) 1300 f32), (a 33, aI (kG κ) 1300 f33), (a 34, aI (kG κ) 1300 f34), (a 35, aI (kG κ) 13000 f35), (a 36, aI (kG κ) 606 f36)]) (pm_sel [0, 3, 1, 2, 4, 5, 6, 7, 8, 9, 10, 11, 12, 13, 14, 15, 16, 17] 18 (by decide +kernel) rfl rfl) ?_
            exact w_vret C E dX9_begins_90 rfl (Nat.le_refl _) (Nat.le_refl _) ⟨fs, (failS (begS r d) 3 t ky ch), _, _, _, _, _, _, _, _, _, _, _, _, _, _, _, _, _, _, rfl, rfl, (MM_fail (MM_beg hM hb1 (by omega : d ≤ 8)) (by decide) (by decide) ht hy hc (by omega) hx hp hgA), (by subst hc; exact congrArg (finS g fs) (car_3 (by omega) (by omega) hmt)), (by show (100 - (rsB r + 1)) * 40 + msL fs ≤ (100 - rsB r) * 40 + msL fs; omega)⟩
        exact LP_4 
      · have hmxF := mx_F hv12 hP8 (by omega) (Int32.not_le.mp h_3)
        refine w_iload (nx := 62) C 5 dX9_begins_60 rfl rfl ?_
        refine w_top (nI (max (rsP r) d)) (congrArg nI hmxF) ?_
        refine w_goto (nx := 69) C dX9_begins_62 rfl ?_
        have LP_19 : WW κ 0 0 [(a 0, mO a (upd v 10 (nI (rsB r + 1)))), (a 1, aI (kG κ) 800 f1), (a 17, aI (kG κ) 12 f17), (a 21, aI (kG κ) 12 f21), (a 22, aI (kG κ) 12 f22), (a 23, aI (kG κ) 12 f23), (a 24, aI (kG κ) 12 f24), (a 25, aI (kG κ) 12 f25), (a 26, aI (kG κ) 12 f26), (a 27, aI (kG κ) 12 f27), (a 28, aI (kG κ) 12 f28), (a 29, aZ (kG κ) 4 f29), (a 31, aI (kG κ) 1300 f31), (a 32, aI (kG κ) 1300 f32), (a 33, aI (kG κ) 1300 f33), (a 34, aI (kG κ) 1300 f34), (a 35, aI (kG κ) 13000 f35), (a 36, aI (kG κ) 606 f36)] 69 [(0, .ref (a 0)), (1, .int (nI kd)), (2, .int (nI t)), (3, .int (nI ky)), (4, .int (nI nm)), (5, .int (nI d))] [.int (nI (max (rsP r) d)), .ref (a 0)] := by
          skip
          refine w_putM (nx := 72) (ws2 := [(a 0, mO a (upd (upd v 10 (nI (rsB r + 1))) 12 (nI (max (rsP r) d)))), (a 1, aI (kG κ) 800 f1), (a 17, aI (kG κ) 12 f17), (a 21, aI (kG κ) 12 f21), (a 22, aI (kG κ) 12 f22), (a 23, aI (kG κ) 12 f23), (a 24, aI (kG κ) 12 f24), (a 25, aI (kG κ) 12 f25), (a 26, aI (kG κ) 12 f26), (a 27, aI (kG κ) 12 f27), (a 28, aI (kG κ) 12 f28), (a 29, aZ (kG κ) 4 f29), (a 31, aI (kG κ) 1300 f31), (a 32, aI (kG κ) 1300 f32), (a 33, aI (kG κ) 1300 f33), (a 34, aI (kG κ) 1300 f34), (a 35, aI (kG κ) 13000 f35), (a 36, aI (kG κ) 606 f36)]) C 0 12 dX9_begins_69 rfl wl_X9_133 rfl (by decide) rfl rfl rfl (ms_12 _ _ _) rfl ?_
          refine w_aload_n (nx := 73) C 0 dX9_begins_72 rfl rfl rfl ?_
          refine w_getM (nx := 76) C (.ref (a 29)) 0 29 dX9_begins_73 rfl wl_X9_60 rfl (by decide) rfl (mg_29 _ _) ?_
          refine w_iload_n (nx := 77) C 2 dX9_begins_76 rfl rfl rfl ?_
          refine w_zald (nx := 78) C (bC ((mkS fs).testBit t = true)) 11 t dX9_begins_77 rfl rfl (by decide) rfl (by omega) (hmv t ht) ?_
          refine b_if_eq (tg := 91) (nx := 81) C dX9_begins_78 rfl rfl (fun h_20 => ?_) (fun h_20 => ?_)
          · have hmt := h_20
            refine w_aload_n (nx := 92) C 0 dX9_begins_91 rfl rfl rfl ?_
            refine w_iload_n (nx := 93) C 1 dX9_begins_92 rfl rfl rfl ?_
            refine w_iload_n (nx := 94) C 2 dX9_begins_93 rfl rfl rfl ?_
            refine w_iload_n (nx := 95) C 3 dX9_begins_94 rfl rfl rfl ?_
            refine w_iload (nx := 97) C 4 dX9_begins_95 rfl rfl ?_
            refine w_callV (nx := 100) (wr := [(a 17, aI (kG κ) 12 f17), (a 21, aI (kG κ) 12 f21), (a 22, aI (kG κ) 12 f22), (a 23, aI (kG κ) 12 f23), (a 24, aI (kG κ) 12 f24), (a 25, aI (kG κ) 12 f25), (a 26, aI (kG κ) 12 f26), (a 27, aI (kG κ) 12 f27), (a 28, aI (kG κ) 12 f28), (a 29, aZ (kG κ) 4 f29), (a 31, aI (kG κ) 1300 f31), (a 32, aI (kG κ) 1300 f32), (a 33, aI (kG κ) 1300 f33), (a 34, aI (kG κ) 1300 f34), (a 35, aI (kG κ) 13000 f35), (a 36, aI (kG κ) 606 f36)]) (rest := []) C mi_X9_isPossible (c_X9_isPossible _ _ a (upd (upd v 10 (nI (rsB r + 1))) 12 (nI (max (rsP r) d))) f1 (rsT r) kd t ky nm (hmT) (hwT) (by first | assumption | omega) (by first | assumption | omega) (by first | assumption | omega) (by first | assumption | omega)) 0 dX9_begins_97 rfl wl_X9_136 rfl rfl rfl (pm_sel [0, 1, 2, 3, 4, 5, 6, 7, 8, 9, 10, 11, 12, 13, 14, 15, 16, 17] 18 (by decide +kernel) rfl rfl) rfl rfl (Nat.le_of_ble_eq_true rfl) (Nat.le_of_ble_eq_true rfl) (Nat.le_of_ble_eq_true rfl) (Nat.zero_le _) (Nat.zero_le _) (fun v9 w9 R_21 => ?_)
            obtain ⟨rfl, rfl⟩ := R_21
            show WW κ 0 0 [(a 0, mO a (upd (upd v 10 (nI (rsB r + 1))) 12 (nI (max (rsP r) d)))), (a 1, aI (kG κ) 800 f1), (a 17, aI (kG κ) 12 f17), (a 21, aI (kG κ) 12 f21), (a 22, aI (kG κ) 12 f22), (a 23, aI (kG κ) 12 f23), (a 24, aI (kG κ) 12 f24), (a 25, aI (kG κ) 12 f25), (a 26, aI (kG κ) 12 f26), (a 27, aI (kG κ) 12 f27), (a 28, aI (kG κ) 12 f28), (a 29, aZ (kG κ) 4 f29), (a 31, aI (kG κ) 1300 f31), (a 32, aI (kG κ) 1300 f32), (a 33, aI (kG κ) 1300 f33), (a 34, aI (kG κ) 1300 f34), (a 35, aI (kG κ) 13000 f35), (a 36, aI (kG κ) 606 f36)] 100 [(0, .ref (a 0)), (1, .int (nI kd)), (2, .int (nI t)), (3, .int (nI ky)), (4, .int (nI nm)), (5, .int (nI d))] [.int (bC (¬ wgt (rsT r) kd t ky nm = none))]
            refine b_if_ne (tg := 141) (nx := 103) C dX9_begins_100 rfl rfl (fun h_22 => ?_) (fun h_22 => ?_)
            · rcases hgw : wgt (rsT r) kd t ky nm with _ | w
              · exact absurd hgw h_22
              refine w_aload_n (nx := 142) C 0 dX9_begins_141 rfl rfl rfl ?_
              refine w_getM (nx := 145) C (.ref (a 29)) 0 29 dX9_begins_142 rfl wl_X9_60 rfl (by decide) rfl (mg_29 _ _) ?_
              refine w_iload_n (nx := 146) C 2 dX9_begins_145 rfl rfl rfl ?_
              refine w_iconst (nx := 147) C (nI 1) dX9_begins_146 rfl (by decide) ?_
              refine w_zast (nx := 148) (ws2 := [(a 0, mO a (upd (upd v 10 (nI (rsB r + 1))) 12 (nI (max (rsP r) d)))), (a 1, aI (kG κ) 800 f1), (a 17, aI (kG κ) 12 f17), (a 21, aI (kG κ) 12 f21), (a 22, aI (kG κ) 12 f22), (a 23, aI (kG κ) 12 f23), (a 24, aI (kG κ) 12 f24), (a 25, aI (kG κ) 12 f25), (a 26, aI (kG κ) 12 f26), (a 27, aI (kG κ) 12 f27), (a 28, aI (kG κ) 12 f28), (a 29, aZ (kG κ) 4 (upd f29 t (nI 1))), (a 31, aI (kG κ) 1300 f31), (a 32, aI (kG κ) 1300 f32), (a 33, aI (kG κ) 1300 f33), (a 34, aI (kG κ) 1300 f34), (a 35, aI (kG κ) 13000 f35), (a 36, aI (kG κ) 606 f36)]) C (nI 1) 11 t dX9_begins_147 rfl rfl (by decide) rfl (by omega) rfl rfl ?_
              refine w_aload_n (nx := 149) C 0 dX9_begins_148 rfl rfl rfl ?_
              refine w_iload (nx := 151) C 5 dX9_begins_149 rfl rfl ?_
              refine w_putM (nx := 154) (ws2 := [(a 0, mO a (upd (upd (upd v 10 (nI (rsB r + 1))) 12 (nI (max (rsP r) d))) 20 (nI d))), (a 1, aI (kG κ) 800 f1), (a 17, aI (kG κ) 12 f17), (a 21, aI (kG κ) 12 f21), (a 22, aI (kG κ) 12 f22), (a 23, aI (kG κ) 12 f23), (a 24, aI (kG κ) 12 f24), (a 25, aI (kG κ) 12 f25), (a 26, aI (kG κ) 12 f26), (a 27, aI (kG κ) 12 f27), (a 28, aI (kG κ) 12 f28), (a 29, aZ (kG κ) 4 (upd f29 t (nI 1))), (a 31, aI (kG κ) 1300 f31), (a 32, aI (kG κ) 1300 f32), (a 33, aI (kG κ) 1300 f33), (a 34, aI (kG κ) 1300 f34), (a 35, aI (kG κ) 13000 f35), (a 36, aI (kG κ) 606 f36)]) C 0 20 dX9_begins_151 rfl wl_X9_143 rfl (by decide) rfl rfl rfl (ms_20 _ _ _) rfl ?_
              refine w_aload_n (nx := 155) C 0 dX9_begins_154 rfl rfl rfl ?_
              refine w_getM (nx := 158) C (.ref (a 22)) 0 22 dX9_begins_155 rfl wl_X9_39 rfl (by decide) rfl (mg_22 _ _) ?_
              refine w_iload (nx := 160) C 5 dX9_begins_158 rfl rfl ?_
              refine w_iload_n (nx := 161) C 1 dX9_begins_160 rfl rfl rfl ?_
              refine w_iast (nx := 162) (ws2 := [(a 0, mO a (upd (upd (upd v 10 (nI (rsB r + 1))) 12 (nI (max (rsP r) d))) 20 (nI d))), (a 1, aI (kG κ) 800 f1), (a 17, aI (kG κ) 12 f17), (a 21, aI (kG κ) 12 f21), (a 22, aI (kG κ) 12 (upd f22 d (nI kd))), (a 23, aI (kG κ) 12 f23), (a 24, aI (kG κ) 12 f24), (a 25, aI (kG κ) 12 f25), (a 26, aI (kG κ) 12 f26), (a 27, aI (kG κ) 12 f27), (a 28, aI (kG κ) 12 f28), (a 29, aZ (kG κ) 4 (upd f29 t (nI 1))), (a 31, aI (kG κ) 1300 f31), (a 32, aI (kG κ) 1300 f32), (a 33, aI (kG κ) 1300 f33), (a 34, aI (kG κ) 1300 f34), (a 35, aI (kG κ) 13000 f35), (a 36, aI (kG κ) 606 f36)]) C 4 d dX9_begins_161 rfl rfl (by decide) rfl (by omega) rfl ?_
              refine w_aload_n (nx := 163) C 0 dX9_begins_162 rfl rfl rfl ?_
              refine w_getM (nx := 166) C (.ref (a 23)) 0 23 dX9_begins_163 rfl wl_X9_42 rfl (by decide) rfl (mg_23 _ _) ?_
              refine w_iload (nx := 168) C 5 dX9_begins_166 rfl rfl ?_
              refine w_iload_n (nx := 169) C 2 dX9_begins_168 rfl rfl rfl ?_
              refine w_iast (nx := 170) (ws2 := [(a 0, mO a (upd (upd (upd v 10 (nI (rsB r + 1))) 12 (nI (max (rsP r) d))) 20 (nI d))), (a 1, aI (kG κ) 800 f1), (a 17, aI (kG κ) 12 f17), (a 21, aI (kG κ) 12 f21), (a 22, aI (kG κ) 12 (upd f22 d (nI kd))), (a 23, aI (kG κ) 12 (upd f23 d (nI t))), (a 24, aI (kG κ) 12 f24), (a 25, aI (kG κ) 12 f25), (a 26, aI (kG κ) 12 f26), (a 27, aI (kG κ) 12 f27), (a 28, aI (kG κ) 12 f28), (a 29, aZ (kG κ) 4 (upd f29 t (nI 1))), (a 31, aI (kG κ) 1300 f31), (a 32, aI (kG κ) 1300 f32), (a 33, aI (kG κ) 1300 f33), (a 34, aI (kG κ) 1300 f34), (a 35, aI (kG κ) 13000 f35), (a 36, aI (kG κ) 606 f36)]) C 5 d dX9_begins_169 rfl rfl (by decide) rfl (by omega) rfl ?_
              refine w_aload_n (nx := 171) C 0 dX9_begins_170 rfl rfl rfl ?_
              refine w_getM (nx := 174) C (.ref (a 24)) 0 24 dX9_begins_171 rfl wl_X9_45 rfl (by decide) rfl (mg_24 _ _) ?_
              refine w_iload (nx := 176) C 5 dX9_begins_174 rfl rfl ?_
              refine w_iload_n (nx := 177) C 3 dX9_begins_176 rfl rfl rfl ?_
              refine w_iast (nx := 178) (ws2 := [(a 0, mO a (upd (upd (upd v 10 (nI (rsB r + 1))) 12 (nI (max (rsP r) d))) 20 (nI d))), (a 1, aI (kG κ) 800 f1), (a 17, aI (kG κ) 12 f17), (a 21, aI (kG κ) 12 f21), (a 22, aI (kG κ) 12 (upd f22 d (nI kd))), (a 23, aI (kG κ) 12 (upd f23 d (nI t))), (a 24, aI (kG κ) 12 (upd f24 d (nI ky))), (a 25, aI (kG κ) 12 f25), (a 26, aI (kG κ) 12 f26), (a 27, aI (kG κ) 12 f27), (a 28, aI (kG κ) 12 f28), (a 29, aZ (kG κ) 4 (upd f29 t (nI 1))), (a 31, aI (kG κ) 1300 f31), (a 32, aI (kG κ) 1300 f32), (a 33, aI (kG κ) 1300 f33), (a 34, aI (kG κ) 1300 f34), (a 35, aI (kG κ) 13000 f35), (a 36, aI (kG κ) 606 f36)]) C 6 d dX9_begins_177 rfl rfl (by decide) rfl (by omega) rfl ?_
              refine w_aload_n (nx := 179) C 0 dX9_begins_178 rfl rfl rfl ?_
              refine w_getM (nx := 182) C (.ref (a 25)) 0 25 dX9_begins_179 rfl wl_X9_48 rfl (by decide) rfl (mg_25 _ _) ?_
              refine w_iload (nx := 184) C 5 dX9_begins_182 rfl rfl ?_
              refine w_iload (nx := 186) C 4 dX9_begins_184 rfl rfl ?_
              refine w_iast (nx := 187) (ws2 := [(a 0, mO a (upd (upd (upd v 10 (nI (rsB r + 1))) 12 (nI (max (rsP r) d))) 20 (nI d))), (a 1, aI (kG κ) 800 f1), (a 17, aI (kG κ) 12 f17), (a 21, aI (kG κ) 12 f21), (a 22, aI (kG κ) 12 (upd f22 d (nI kd))), (a 23, aI (kG κ) 12 (upd f23 d (nI t))), (a 24, aI (kG κ) 12 (upd f24 d (nI ky))), (a 25, aI (kG κ) 12 (upd f25 d (nI nm))), (a 26, aI (kG κ) 12 f26), (a 27, aI (kG κ) 12 f27), (a 28, aI (kG κ) 12 f28), (a 29, aZ (kG κ) 4 (upd f29 t (nI 1))), (a 31, aI (kG κ) 1300 f31), (a 32, aI (kG κ) 1300 f32), (a 33, aI (kG κ) 1300 f33), (a 34, aI (kG κ) 1300 f34), (a 35, aI (kG κ) 13000 f35), (a 36, aI (kG κ) 606 f36)]) C 7 d dX9_begins_186 rfl rfl (by decide) rfl (by omega) rfl ?_
              refine w_aload_n (nx := 188) C 0 dX9_begins_187 rfl rfl rfl ?_
              refine w_getM (nx := 191) C (.ref (a 26)) 0 26 dX9_begins_188 rfl wl_X9_51 rfl (by decide) rfl (mg_26 _ _) ?_
              refine w_iload (nx := 193) C 5 dX9_begins_191 rfl rfl ?_
              refine w_iload_n (nx := 194) C 1 dX9_begins_193 rfl rfl rfl ?_
              refine n_if_ne (tg := 202) (nx := 197) C dX9_begins_194 rfl rfl (by omega) (fun h_23 => ?_) (fun h_23 => ?_)
              · have hk0 : ¬ kd = 0 := by omega
                obtain ⟨hw1, hw2, hw3⟩ := wgt_n hk0 hgw
                refine w_aload_n (nx := 203) C 0 dX9_begins_202 rfl rfl rfl ?_
                refine w_iload_n (nx := 204) C 2 dX9_begins_203 rfl rfl rfl ?_
                refine w_iload_n (nx := 205) C 3 dX9_begins_204 rfl rfl rfl ?_
                refine w_callV (nx := 208) (wr := [(a 17, aI (kG κ) 12 f17), (a 21, aI (kG κ) 12 f21), (a 22, aI (kG κ) 12 (upd f22 d (nI kd))), (a 23, aI (kG κ) 12 (upd f23 d (nI t))), (a 24, aI (kG κ) 12 (upd f24 d (nI ky))), (a 25, aI (kG κ) 12 (upd f25 d (nI nm))), (a 26, aI (kG κ) 12 f26), (a 27, aI (kG κ) 12 f27), (a 28, aI (kG κ) 12 f28), (a 29, aZ (kG κ) 4 (upd f29 t (nI 1))), (a 31, aI (kG κ) 1300 f31), (a 32, aI (kG κ) 1300 f32), (a 33, aI (kG κ) 1300 f33), (a 34, aI (kG κ) 1300 f34), (a 35, aI (kG κ) 13000 f35), (a 36, aI (kG κ) 606 f36)]) (rest := [.int (nI d), .ref (a 26)]) C mi_X9_numberOf (c_X9_numberOf _ _ a (upd (upd (upd v 10 (nI (rsB r + 1))) 12 (nI (max (rsP r) d))) 20 (nI d)) f1 (rsT r) t ky (hmT) (hwT) (by first | assumption | omega) (by first | assumption | omega)) 0 dX9_begins_205 rfl wl_X9_111 rfl rfl rfl (pm_sel [0, 1, 2, 3, 4, 5, 6, 7, 8, 9, 10, 11, 12, 13, 14, 15, 16, 17] 18 (by decide +kernel) rfl rfl) rfl rfl (Nat.le_of_ble_eq_true rfl) (Nat.le_of_ble_eq_true rfl) (Nat.le_of_ble_eq_true rfl) (Nat.zero_le _) (Nat.zero_le _) (fun v9 w9 R_24 => ?_)
                rcases R_24 with ⟨rfl, rfl, hpl⟩ | ⟨rfl, rfl, hpl⟩
                · show WW κ 0 0 [(a 0, mO a (upd (upd (upd v 10 (nI (rsB r + 1))) 12 (nI (max (rsP r) d))) 20 (nI d))), (a 1, aI (kG κ) 800 f1), (a 17, aI (kG κ) 12 f17), (a 21, aI (kG κ) 12 f21), (a 22, aI (kG κ) 12 (upd f22 d (nI kd))), (a 23, aI (kG κ) 12 (upd f23 d (nI t))), (a 24, aI (kG κ) 12 (upd f24 d (nI ky))), (a 25, aI (kG κ) 12 (upd f25 d (nI nm))), (a 26, aI (kG κ) 12 f26), (a 27, aI (kG κ) 12 f27), (a 28, aI (kG κ) 12 f28), (a 29, aZ (kG κ) 4 (upd f29 t (nI 1))), (a 31, aI (kG κ) 1300 f31), (a 32, aI (kG κ) 1300 f32), (a 33, aI (kG κ) 1300 f33), (a 34, aI (kG κ) 1300 f34), (a 35, aI (kG κ) 13000 f35), (a 36, aI (kG κ) 606 f36)] 208 [(0, .ref (a 0)), (1, .int (nI kd)), (2, .int (nI t)), (3, .int (nI ky)), (4, .int (nI nm)), (5, .int (nI d))] [.int (nI (nT (rsT r) t (plT (rsT r) t ky))), .int (nI d), .ref (a 26)]
                  refine w_iload_n (nx := 209) C 1 dX9_begins_208 rfl rfl rfl ?_
                  refine w_iconst (nx := 210) C (nI 1) dX9_begins_209 rfl (by decide) ?_
                  refine n_icmp_ne (tg := 218) (nx := 213) C dX9_begins_210 rfl rfl (by omega) (by omega) (fun h_25 => ?_) (fun h_25 => ?_)
                  · have hw4 := hw2 (by omega)
                    refine w_iconst (nx := 219) C (nI 0) dX9_begins_218 rfl (by decide) ?_
                    refine w_iadd (nx := 220) C (nI (nT (rsT r) t (plT (rsT r) t ky) + 0)) dX9_begins_219 rfl (nI_add _ _) ?_
                    refine w_top (nI w) (by rw [hw4]; exact congrArg nI (Nat.add_zero _)) ?_
                    have LP_26 : WW κ 0 0 [(a 0, mO a (upd (upd (upd v 10 (nI (rsB r + 1))) 12 (nI (max (rsP r) d))) 20 (nI d))), (a 1, aI (kG κ) 800 f1), (a 17, aI (kG κ) 12 f17), (a 21, aI (kG κ) 12 f21), (a 22, aI (kG κ) 12 (upd f22 d (nI kd))), (a 23, aI (kG κ) 12 (upd f23 d (nI t))), (a 24, aI (kG κ) 12 (upd f24 d (nI ky))), (a 25, aI (kG κ) 12 (upd f25 d (nI nm))), (a 26, aI (kG κ) 12 f26), (a 27, aI (kG κ) 12 f27), (a 28, aI (kG κ) 12 f28), (a 29, aZ (kG κ) 4 (upd f29 t (nI 1))), (a 31, aI (kG κ) 1300 f31), (a 32, aI (kG κ) 1300 f32), (a 33, aI (kG κ) 1300 f33), (a 34, aI (kG κ) 1300 f34), (a 35, aI (kG κ) 13000 f35), (a 36, aI (kG κ) 606 f36)] 220 [(0, .ref (a 0)), (1, .int (nI kd)), (2, .int (nI t)), (3, .int (nI ky)), (4, .int (nI nm)), (5, .int (nI d))] [.int (nI w), .int (nI d), .ref (a 26)] := by
                      skip
                      refine w_iast (nx := 221) (ws2 := [(a 0, mO a (upd (upd (upd v 10 (nI (rsB r + 1))) 12 (nI (max (rsP r) d))) 20 (nI d))), (a 1, aI (kG κ) 800 f1), (a 17, aI (kG κ) 12 f17), (a 21, aI (kG κ) 12 f21), (a 22, aI (kG κ) 12 (upd f22 d (nI kd))), (a 23, aI (kG κ) 12 (upd f23 d (nI t))), (a 24, aI (kG κ) 12 (upd f24 d (nI ky))), (a 25, aI (kG κ) 12 (upd f25 d (nI nm))), (a 26, aI (kG κ) 12 (upd f26 d (nI w))), (a 27, aI (kG κ) 12 f27), (a 28, aI (kG κ) 12 f28), (a 29, aZ (kG κ) 4 (upd f29 t (nI 1))), (a 31, aI (kG κ) 1300 f31), (a 32, aI (kG κ) 1300 f32), (a 33, aI (kG κ) 1300 f33), (a 34, aI (kG κ) 1300 f34), (a 35, aI (kG κ) 13000 f35), (a 36, aI (kG κ) 606 f36)]) C 8 d dX9_begins_220 rfl rfl (by decide) rfl (by omega) rfl ?_
                      refine w_aload_n (nx := 222) C 0 dX9_begins_221 rfl rfl rfl ?_
                      refine w_getM (nx := 225) C (.ref (a 27)) 0 27 dX9_begins_222 rfl wl_X9_54 rfl (by decide) rfl (mg_27 _ _) ?_
                      refine w_iload (nx := 227) C 5 dX9_begins_225 rfl rfl ?_
                      refine w_iconst (nx := 228) C (nI 0) dX9_begins_227 rfl (by decide) ?_
                      refine w_iast (nx := 229) (ws2 := [(a 0, mO a (upd (upd (upd v 10 (nI (rsB r + 1))) 12 (nI (max (rsP r) d))) 20 (nI d))), (a 1, aI (kG κ) 800 f1), (a 17, aI (kG κ) 12 f17), (a 21, aI (kG κ) 12 f21), (a 22, aI (kG κ) 12 (upd f22 d (nI kd))), (a 23, aI (kG κ) 12 (upd f23 d (nI t))), (a 24, aI (kG κ) 12 (upd f24 d (nI ky))), (a 25, aI (kG κ) 12 (upd f25 d (nI nm))), (a 26, aI (kG κ) 12 (upd f26 d (nI w))), (a 27, aI (kG κ) 12 (upd f27 d (nI 0))), (a 28, aI (kG κ) 12 f28), (a 29, aZ (kG κ) 4 (upd f29 t (nI 1))), (a 31, aI (kG κ) 1300 f31), (a 32, aI (kG κ) 1300 f32), (a 33, aI (kG κ) 1300 f33), (a 34, aI (kG κ) 1300 f34), (a 35, aI (kG κ) 13000 f35), (a 36, aI (kG κ) 606 f36)]) C 9 d dX9_begins_228 rfl rfl (by decide) rfl (by omega) rfl ?_
                      refine w_aload_n (nx := 230) C 0 dX9_begins_229 rfl rfl rfl ?_
                      refine w_getM (nx := 233) C (.ref (a 28)) 0 28 dX9_begins_230 rfl wl_X9_57 rfl (by decide) rfl (mg_28 _ _) ?_
                      refine w_iload (nx := 235) C 5 dX9_begins_233 rfl rfl ?_
                      refine w_iconst (nx := 236) C (nI 0) dX9_begins_235 rfl (by decide) ?_
                      refine w_iast (nx := 237) (ws2 := [(a 0, mO a (upd (upd (upd v 10 (nI (rsB r + 1))) 12 (nI (max (rsP r) d))) 20 (nI d))), (a 1, aI (kG κ) 800 f1), (a 17, aI (kG κ) 12 f17), (a 21, aI (kG κ) 12 f21), (a 22, aI (kG κ) 12 (upd f22 d (nI kd))), (a 23, aI (kG κ) 12 (upd f23 d (nI t))), (a 24, aI (kG κ) 12 (upd f24 d (nI ky))), (a 25, aI (kG κ) 12 (upd f25 d (nI nm))), (a 26, aI (kG κ) 12 (upd f26 d (nI w))), (a 27, aI (kG κ) 12 (upd f27 d (nI 0))), (a 28, aI (kG κ) 12 (upd f28 d (nI 0))), (a 29, aZ (kG κ) 4 (upd f29 t (nI 1))), (a 31, aI (kG κ) 1300 f31), (a 32, aI (kG κ) 1300 f32), (a 33, aI (kG κ) 1300 f33), (a 34, aI (kG κ) 1300 f34), (a 35, aI (kG κ) 13000 f35), (a 36, aI (kG κ) 606 f36)]) C 10 d dX9_begins_236 rfl rfl (by decide) rfl (by omega) rfl ?_
                      exact w_vret C E dX9_begins_237 rfl (Nat.le_refl _) (Nat.le_refl _) ⟨((kd, t, ky, nm, w, 0, 0, ch, f) :: fs), (begS r d), _, _, _, _, _, _, _, _, _, _, _, _, _, _, _, _, _, _, rfl, rfl, (MM_push (MM_beg hM hb1 (by omega : d ≤ 8)) hk ht hy hn hgw hc hd1 hx hp hl (by omega) hmt), (by rw [fin_push hr (by omega) (by omega) hmt hgw, hc]), (by show (100 - (rsB r + 1)) * 40 + (msL fs + ((3 - 0) * 13 - 0)) ≤ (100 - rsB r) * 40 + msL fs; omega)⟩
                    exact LP_26 
                  · have hw4 := hw3 (by omega)
                    refine w_iload (nx := 215) C 4 dX9_begins_213 rfl rfl ?_
                    refine w_goto (nx := 219) C dX9_begins_215 rfl ?_
                    refine w_iadd (nx := 220) C (nI (nT (rsT r) t (plT (rsT r) t ky) + nm)) dX9_begins_219 rfl (nI_add _ _) ?_
                    refine w_top (nI w) (by rw [hw4]) ?_
                    have LP_27 : WW κ 0 0 [(a 0, mO a (upd (upd (upd v 10 (nI (rsB r + 1))) 12 (nI (max (rsP r) d))) 20 (nI d))), (a 1, aI (kG κ) 800 f1), (a 17, aI (kG κ) 12 f17), (a 21, aI (kG κ) 12 f21), (a 22, aI (kG κ) 12 (upd f22 d (nI kd))), (a 23, aI (kG κ) 12 (upd f23 d (nI t))), (a 24, aI (kG κ) 12 (upd f24 d (nI ky))), (a 25, aI (kG κ) 12 (upd f25 d (nI nm))), (a 26, aI (kG κ) 12 f26), (a 27, aI (kG κ) 12 f27), (a 28, aI (kG κ) 12 f28), (a 29, aZ (kG κ) 4 (upd f29 t (nI 1))), (a 31, aI (kG κ) 1300 f31), (a 32, aI (kG κ) 1300 f32), (a 33, aI (kG κ) 1300 f33), (a 34, aI (kG κ) 1300 f34), (a 35, aI (kG κ) 13000 f35), (a 36, aI (kG κ) 606 f36)] 220 [(0, .ref (a 0)), (1, .int (nI kd)), (2, .int (nI t)), (3, .int (nI ky)), (4, .int (nI nm)), (5, .int (nI d))] [.int (nI w), .int (nI d), .ref (a 26)] := by
                      skip
                      refine w_iast (nx := 221) (ws2 := [(a 0, mO a (upd (upd (upd v 10 (nI (rsB r + 1))) 12 (nI (max (rsP r) d))) 20 (nI d))), (a 1, aI (kG κ) 800 f1), (a 17, aI (kG κ) 12 f17), (a 21, aI (kG κ) 12 f21), (a 22, aI (kG κ) 12 (upd f22 d (nI kd))), (a 23, aI (kG κ) 12 (upd f23 d (nI t))), (a 24, aI (kG κ) 12 (upd f24 d (nI ky))), (a 25, aI (kG κ) 12 (upd f25 d (nI nm))), (a 26, aI (kG κ) 12 (upd f26 d (nI w))), (a 27, aI (kG κ) 12 f27), (a 28, aI (kG κ) 12 f28), (a 29, aZ (kG κ) 4 (upd f29 t (nI 1))), (a 31, aI (kG κ) 1300 f31), (a 32, aI (kG κ) 1300 f32), (a 33, aI (kG κ) 1300 f33), (a 34, aI (kG κ) 1300 f34), (a 35, aI (kG κ) 13000 f35), (a 36, aI (kG κ) 606 f36)]) C 8 d dX9_begins_220 rfl rfl (by decide) rfl (by omega) rfl ?_
                      refine w_aload_n (nx := 222) C 0 dX9_begins_221 rfl rfl rfl ?_
                      refine w_getM (nx := 225) C (.ref (a 27)) 0 27 dX9_begins_222 rfl wl_X9_54 rfl (by decide) rfl (mg_27 _ _) ?_
                      refine w_iload (nx := 227) C 5 dX9_begins_225 rfl rfl ?_
                      refine w_iconst (nx := 228) C (nI 0) dX9_begins_227 rfl (by decide) ?_
                      refine w_iast (nx := 229) (ws2 := [(a 0, mO a (upd (upd (upd v 10 (nI (rsB r + 1))) 12 (nI (max (rsP r) d))) 20 (nI d))), (a 1, aI (kG κ) 800 f1), (a 17, aI (kG κ) 12 f17), (a 21, aI (kG κ) 12 f21), (a 22, aI (kG κ) 12 (upd f22 d (nI kd))), (a 23, aI (kG κ) 12 (upd f23 d (nI t))), (a 24, aI (kG κ) 12 (upd f24 d (nI ky))), (a 25, aI (kG κ) 12 (upd f25 d (nI nm))), (a 26, aI (kG κ) 12 (upd f26 d (nI w))), (a 27, aI (kG κ) 12 (upd f27 d (nI 0))), (a 28, aI (kG κ) 12 f28), (a 29, aZ (kG κ) 4 (upd f29 t (nI 1))), (a 31, aI (kG κ) 1300 f31), (a 32, aI (kG κ) 1300 f32), (a 33, aI (kG κ) 1300 f33), (a 34, aI (kG κ) 1300 f34), (a 35, aI (kG κ) 13000 f35), (a 36, aI (kG κ) 606 f36)]) C 9 d dX9_begins_228 rfl rfl (by decide) rfl (by omega) rfl ?_
                      refine w_aload_n (nx := 230) C 0 dX9_begins_229 rfl rfl rfl ?_
                      refine w_getM (nx := 233) C (.ref (a 28)) 0 28 dX9_begins_230 rfl wl_X9_57 rfl (by decide) rfl (mg_28 _ _) ?_
                      refine w_iload (nx := 235) C 5 dX9_begins_233 rfl rfl ?_
                      refine w_iconst (nx := 236) C (nI 0) dX9_begins_235 rfl (by decide) ?_
                      refine w_iast (nx := 237) (ws2 := [(a 0, mO a (upd (upd (upd v 10 (nI (rsB r + 1))) 12 (nI (max (rsP r) d))) 20 (nI d))), (a 1, aI (kG κ) 800 f1), (a 17, aI (kG κ) 12 f17), (a 21, aI (kG κ) 12 f21), (a 22, aI (kG κ) 12 (upd f22 d (nI kd))), (a 23, aI (kG κ) 12 (upd f23 d (nI t))), (a 24, aI (kG κ) 12 (upd f24 d (nI ky))), (a 25, aI (kG κ) 12 (upd f25 d (nI nm))), (a 26, aI (kG κ) 12 (upd f26 d (nI w))), (a 27, aI (kG κ) 12 (upd f27 d (nI 0))), (a 28, aI (kG κ) 12 (upd f28 d (nI 0))), (a 29, aZ (kG κ) 4 (upd f29 t (nI 1))), (a 31, aI (kG κ) 1300 f31), (a 32, aI (kG κ) 1300 f32), (a 33, aI (kG κ) 1300 f33), (a 34, aI (kG κ) 1300 f34), (a 35, aI (kG κ) 13000 f35), (a 36, aI (kG κ) 606 f36)]) C 10 d dX9_begins_236 rfl rfl (by decide) rfl (by omega) rfl ?_
                      exact w_vret C E dX9_begins_237 rfl (Nat.le_refl _) (Nat.le_refl _) ⟨((kd, t, ky, nm, w, 0, 0, ch, f) :: fs), (begS r d), _, _, _, _, _, _, _, _, _, _, _, _, _, _, _, _, _, _, rfl, rfl, (MM_push (MM_beg hM hb1 (by omega : d ≤ 8)) hk ht hy hn hgw hc hd1 hx hp hl (by omega) hmt), (by rw [fin_push hr (by omega) (by omega) hmt hgw, hc]), (by show (100 - (rsB r + 1)) * 40 + (msL fs + ((3 - 0) * 13 - 0)) ≤ (100 - rsB r) * 40 + msL fs; omega)⟩
                    exact LP_27 
                · show WW κ 0 0 [(a 0, mO a (upd (upd (upd v 10 (nI (rsB r + 1))) 12 (nI (max (rsP r) d))) 20 (nI d))), (a 1, aI (kG κ) 800 f1), (a 17, aI (kG κ) 12 f17), (a 21, aI (kG κ) 12 f21), (a 22, aI (kG κ) 12 (upd f22 d (nI kd))), (a 23, aI (kG κ) 12 (upd f23 d (nI t))), (a 24, aI (kG κ) 12 (upd f24 d (nI ky))), (a 25, aI (kG κ) 12 (upd f25 d (nI nm))), (a 26, aI (kG κ) 12 f26), (a 27, aI (kG κ) 12 f27), (a 28, aI (kG κ) 12 f28), (a 29, aZ (kG κ) 4 (upd f29 t (nI 1))), (a 31, aI (kG κ) 1300 f31), (a 32, aI (kG κ) 1300 f32), (a 33, aI (kG κ) 1300 f33), (a 34, aI (kG κ) 1300 f34), (a 35, aI (kG κ) 13000 f35), (a 36, aI (kG κ) 606 f36)] 208 [(0, .ref (a 0)), (1, .int (nI kd)), (2, .int (nI t)), (3, .int (nI ky)), (4, .int (nI nm)), (5, .int (nI d))] [.int (-6), .int (nI d), .ref (a 26)]
                  exfalso; omega
              · have hk0 : kd = 0 := by omega
                obtain ⟨hw1, hw2, hw3⟩ := wgt_0 hk0 hgw
                refine w_iload (nx := 199) C 4 dX9_begins_197 rfl rfl ?_
                refine w_goto (nx := 220) C dX9_begins_199 rfl ?_
                refine w_top (nI w) (by rw [hw3]) ?_
                have LP_28 : WW κ 0 0 [(a 0, mO a (upd (upd (upd v 10 (nI (rsB r + 1))) 12 (nI (max (rsP r) d))) 20 (nI d))), (a 1, aI (kG κ) 800 f1), (a 17, aI (kG κ) 12 f17), (a 21, aI (kG κ) 12 f21), (a 22, aI (kG κ) 12 (upd f22 d (nI kd))), (a 23, aI (kG κ) 12 (upd f23 d (nI t))), (a 24, aI (kG κ) 12 (upd f24 d (nI ky))), (a 25, aI (kG κ) 12 (upd f25 d (nI nm))), (a 26, aI (kG κ) 12 f26), (a 27, aI (kG κ) 12 f27), (a 28, aI (kG κ) 12 f28), (a 29, aZ (kG κ) 4 (upd f29 t (nI 1))), (a 31, aI (kG κ) 1300 f31), (a 32, aI (kG κ) 1300 f32), (a 33, aI (kG κ) 1300 f33), (a 34, aI (kG κ) 1300 f34), (a 35, aI (kG κ) 13000 f35), (a 36, aI (kG κ) 606 f36)] 220 [(0, .ref (a 0)), (1, .int (nI kd)), (2, .int (nI t)), (3, .int (nI ky)), (4, .int (nI nm)), (5, .int (nI d))] [.int (nI w), .int (nI d), .ref (a 26)] := by
                  skip
                  refine w_iast (nx := 221) (ws2 := [(a 0, mO a (upd (upd (upd v 10 (nI (rsB r + 1))) 12 (nI (max (rsP r) d))) 20 (nI d))), (a 1, aI (kG κ) 800 f1), (a 17, aI (kG κ) 12 f17), (a 21, aI (kG κ) 12 f21), (a 22, aI (kG κ) 12 (upd f22 d (nI kd))), (a 23, aI (kG κ) 12 (upd f23 d (nI t))), (a 24, aI (kG κ) 12 (upd f24 d (nI ky))), (a 25, aI (kG κ) 12 (upd f25 d (nI nm))), (a 26, aI (kG κ) 12 (upd f26 d (nI w))), (a 27, aI (kG κ) 12 f27), (a 28, aI (kG κ) 12 f28), (a 29, aZ (kG κ) 4 (upd f29 t (nI 1))), (a 31, aI (kG κ) 1300 f31), (a 32, aI (kG κ) 1300 f32), (a 33, aI (kG κ) 1300 f33), (a 34, aI (kG κ) 1300 f34), (a 35, aI (kG κ) 13000 f35), (a 36, aI (kG κ) 606 f36)]) C 8 d dX9_begins_220 rfl rfl (by decide) rfl (by omega) rfl ?_
                  refine w_aload_n (nx := 222) C 0 dX9_begins_221 rfl rfl rfl ?_
                  refine w_getM (nx := 225) C (.ref (a 27)) 0 27 dX9_begins_222 rfl wl_X9_54 rfl (by decide) rfl (mg_27 _ _) ?_
                  refine w_iload (nx := 227) C 5 dX9_begins_225 rfl rfl ?_
                  refine w_iconst (nx := 228) C (nI 0) dX9_begins_227 rfl (by decide) ?_
                  refine w_iast (nx := 229) (ws2 := [(a 0, mO a (upd (upd (upd v 10 (nI (rsB r + 1))) 12 (nI (max (rsP r) d))) 20 (nI d))), (a 1, aI (kG κ) 800 f1), (a 17, aI (kG κ) 12 f17), (a 21, aI (kG κ) 12 f21), (a 22, aI (kG κ) 12 (upd f22 d (nI kd))), (a 23, aI (kG κ) 12 (upd f23 d (nI t))), (a 24, aI (kG κ) 12 (upd f24 d (nI ky))), (a 25, aI (kG κ) 12 (upd f25 d (nI nm))), (a 26, aI (kG κ) 12 (upd f26 d (nI w))), (a 27, aI (kG κ) 12 (upd f27 d (nI 0))), (a 28, aI (kG κ) 12 f28), (a 29, aZ (kG κ) 4 (upd f29 t (nI 1))), (a 31, aI (kG κ) 1300 f31), (a 32, aI (kG κ) 1300 f32), (a 33, aI (kG κ) 1300 f33), (a 34, aI (kG κ) 1300 f34), (a 35, aI (kG κ) 13000 f35), (a 36, aI (kG κ) 606 f36)]) C 9 d dX9_begins_228 rfl rfl (by decide) rfl (by omega) rfl ?_
                  refine w_aload_n (nx := 230) C 0 dX9_begins_229 rfl rfl rfl ?_
                  refine w_getM (nx := 233) C (.ref (a 28)) 0 28 dX9_begins_230 rfl wl_X9_57 rfl (by decide) rfl (mg_28 _ _) ?_
                  refine w_iload (nx := 235) C 5 dX9_begins_233 rfl rfl ?_
                  refine w_iconst (nx := 236) C (nI 0) dX9_begins_235 rfl (by decide) ?_
                  refine w_iast (nx := 237) (ws2 := [(a 0, mO a (upd (upd (upd v 10 (nI (rsB r + 1))) 12 (nI (max (rsP r) d))) 20 (nI d))), (a 1, aI (kG κ) 800 f1), (a 17, aI (kG κ) 12 f17), (a 21, aI (kG κ) 12 f21), (a 22, aI (kG κ) 12 (upd f22 d (nI kd))), (a 23, aI (kG κ) 12 (upd f23 d (nI t))), (a 24, aI (kG κ) 12 (upd f24 d (nI ky))), (a 25, aI (kG κ) 12 (upd f25 d (nI nm))), (a 26, aI (kG κ) 12 (upd f26 d (nI w))), (a 27, aI (kG κ) 12 (upd f27 d (nI 0))), (a 28, aI (kG κ) 12 (upd f28 d (nI 0))), (a 29, aZ (kG κ) 4 (upd f29 t (nI 1))), (a 31, aI (kG κ) 1300 f31), (a 32, aI (kG κ) 1300 f32), (a 33, aI (kG κ) 1300 f33), (a 34, aI (kG κ) 1300 f34), (a 35, aI (kG κ) 13000 f35), (a 36, aI (kG κ) 606 f36)]) C 10 d dX9_begins_236 rfl rfl (by decide) rfl (by omega) rfl ?_
                  exact w_vret C E dX9_begins_237 rfl (Nat.le_refl _) (Nat.le_refl _) ⟨((kd, t, ky, nm, w, 0, 0, ch, f) :: fs), (begS r d), _, _, _, _, _, _, _, _, _, _, _, _, _, _, _, _, _, _, rfl, rfl, (MM_push (MM_beg hM hb1 (by omega : d ≤ 8)) hk ht hy hn hgw hc hd1 hx hp hl (by omega) hmt), (by rw [fin_push hr (by omega) (by omega) hmt hgw, hc]), (by show (100 - (rsB r + 1)) * 40 + (msL fs + ((3 - 0) * 13 - 0)) ≤ (100 - rsB r) * 40 + msL fs; omega)⟩
                exact LP_28 
            · have hgw := Classical.not_not.mp h_22
              refine w_iload (nx := 105) C 5 dX9_begins_103 rfl rfl ?_
              refine n_if_le (tg := 131) (nx := 108) C dX9_begins_105 rfl rfl (by omega) (fun h_29 => ?_) (fun h_29 => ?_)
              · have hlf : ¬ (ch ≠ [] ∧ cL g = 1) := fun z => z.1 (List.length_eq_zero_iff.mp (by omega))
                refine w_aload_n (nx := 132) C 0 dX9_begins_131 rfl rfl rfl ?_
                refine w_iconst (nx := 133) C (nI 4) dX9_begins_132 rfl (by decide) ?_
                refine w_iload_n (nx := 134) C 2 dX9_begins_133 rfl rfl rfl ?_
                refine w_iload_n (nx := 135) C 3 dX9_begins_134 rfl rfl rfl ?_
                refine w_iload (nx := 137) C 5 dX9_begins_135 rfl rfl ?_
                refine w_callV (nx := 140) (wr := [(a 1, aI (kG κ) 800 f1), (a 22, aI (kG κ) 12 f22), (a 23, aI (kG κ) 12 f23), (a 24, aI (kG κ) 12 f24), (a 25, aI (kG κ) 12 f25), (a 26, aI (kG κ) 12 f26), (a 27, aI (kG κ) 12 f27), (a 28, aI (kG κ) 12 f28), (a 29, aZ (kG κ) 4 f29), (a 31, aI (kG κ) 1300 f31), (a 32, aI (kG κ) 1300 f32), (a 33, aI (kG κ) 1300 f33), (a 34, aI (kG κ) 1300 f34), (a 35, aI (kG κ) 13000 f35), (a 36, aI (kG κ) 606 f36)]) (rest := []) C mi_X9_fails (c_X9_fails _ _ a (upd (upd v 10 (nI (rsB r + 1))) 12 (nI (max (rsP r) d))) f17 f21 4 t ky d (by first | assumption | omega)) 0 dX9_begins_137 rfl wl_X9_126 rfl rfl rfl (pm_sel [0, 2, 3, 1, 4, 5, 6, 7, 8, 9, 10, 11, 12, 13, 14, 15, 16, 17] 18 (by decide +kernel) rfl rfl) rfl rfl (Nat.le_of_ble_eq_true rfl) (Nat.le_of_ble_eq_true rfl) (Nat.le_of_ble_eq_true rfl) (Nat.zero_le _) (Nat.zero_le _) (fun v9 w9 R_30 => ?_)
                obtain ⟨gA, rfl, rfl, hgA⟩ := R_30
                show WW κ 0 0 [(a 0, mO a (upd (upd (upd (upd (upd (upd v 10 (nI (rsB r + 1))) 12 (nI (max (rsP r) d))) 9 (nI 4)) 14 (nI t)) 15 (nI ky)) 16 (nI d))), (a 17, aI (kG κ) 12 gA), (a 21, aI (kG κ) 12 f21), (a 1, aI (kG κ) 800 f1), (a 22, aI (kG κ) 12 f22), (a 23, aI (kG κ) 12 f23), (a 24, aI (kG κ) 12 f24), (a 25, aI (kG κ) 12 f25), (a 26, aI (kG κ) 12 f26), (a 27, aI (kG κ) 12 f27), (a 28, aI (kG κ) 12 f28), (a 29, aZ (kG κ) 4 f29), (a 31, aI (kG κ) 1300 f31), (a 32, aI (kG κ) 1300 f32), (a 33, aI (kG κ) 1300 f33), (a 34, aI (kG κ) 1300 f34), (a 35, aI (kG κ) 13000 f35), (a 36, aI (kG κ) 606 f36)] 140 [(0, .ref (a 0)), (1, .int (nI kd)), (2, .int (nI t)), (3, .int (nI ky)), (4, .int (nI nm)), (5, .int (nI d))] []
                refine ww_sel (l := [(a 0, mO a (upd (upd (upd (upd (upd (upd v 10 (nI (rsB r + 1))) 12 (nI (max (rsP r) d))) 9 (nI 4)) 14 (nI t)) 15 (nI ky)) 16 (nI d))), (a 1, aI (kG κ) 800 f1), (a 17, aI (kG κ) 12 gA), (a 21, aI (kG κ) 12 f21), (a 22, aI (kG κ) 12 f22), (a 23, aI (kG κ) 12 f23), (a 24, aI (kG κ) 12 f24), (a 25, aI (kG κ) 12 f25), (a 26, aI (kG κ) 12 f26), (a 27, aI (kG κ) 12 f27), (a 28, aI (kG κ) 12 f28), (a 29, aZ (kG κ) 4 f29), (a 31, aI (kG κ) 1300 f31), (a 32, aI (kG κ) 1300 f32), (a 33, aI (kG κ) 1300 f33), (a 34, aI (kG κ) 1300 f34), (a 35, aI (kG κ) 13000 f35), (a 36, aI (kG κ) 606 f36)]) (pm_sel [0, 3, 1, 2, 4, 5, 6, 7, 8, 9, 10, 11, 12, 13, 14, 15, 16, 17] 18 (by decide +kernel) rfl rfl) ?_
                exact w_vret C E dX9_begins_140 rfl (Nat.le_refl _) (Nat.le_refl _) ⟨fs, (failS (begS r d) 4 t ky ch), _, _, _, _, _, _, _, _, _, _, _, _, _, _, _, _, _, _, rfl, rfl, (MM_fail (MM_beg hM hb1 (by omega : d ≤ 8)) (by decide) (by decide) ht hy hc (by omega) hx hp hgA), (by subst hc; exact congrArg (finS g fs) (car_5 (by omega) (by omega) hmt hgw hlf)), (by show (100 - (rsB r + 1)) * 40 + msL fs ≤ (100 - rsB r) * 40 + msL fs; omega)⟩
              · refine w_aload_n (nx := 109) C 0 dX9_begins_108 rfl rfl rfl ?_
                refine w_getM (nx := 112) C (.ref (a 1)) 0 1 dX9_begins_109 rfl wl_X9_7 rfl (by decide) rfl (mg_1 _ _) ?_
                refine w_iconst (nx := 113) C (nI 1) dX9_begins_112 rfl (by decide) ?_
                refine w_iald (nx := 114) C (nI (cL g)) 1 1 dX9_begins_113 rfl rfl (by decide) rfl (by omega) hf1 ?_
                refine w_iconst (nx := 115) C (nI 1) dX9_begins_114 rfl (by decide) ?_
                refine n_icmp_ne (tg := 131) (nx := 118) C dX9_begins_115 rfl rfl (by omega) (by omega) (fun h_31 => ?_) (fun h_31 => ?_)
                · have hlf : ¬ (ch ≠ [] ∧ cL g = 1) := fun z => by omega
                  refine w_aload_n (nx := 132) C 0 dX9_begins_131 rfl rfl rfl ?_
                  refine w_iconst (nx := 133) C (nI 4) dX9_begins_132 rfl (by decide) ?_
                  refine w_iload_n (nx := 134) C 2 dX9_begins_133 rfl rfl rfl ?_
                  refine w_iload_n (nx := 135) C 3 dX9_begins_134 rfl rfl rfl ?_
                  refine w_iload (nx := 137) C 5 dX9_begins_135 rfl rfl ?_
                  refine w_callV (nx := 140) (wr := [(a 1, aI (kG κ) 800 f1), (a 22, aI (kG κ) 12 f22), (a 23, aI (kG κ) 12 f23), (a 24, aI (kG κ) 12 f24), (a 25, aI (kG κ) 12 f25), (a 26, aI (kG κ) 12 f26), (a 27, aI (kG κ) 12 f27), (a 28, aI (kG κ) 12 f28), (a 29, aZ (kG κ) 4 f29), (a 31, aI (kG κ) 1300 f31), (a 32, aI (kG κ) 1300 f32), (a 33, aI (kG κ) 1300 f33), (a 34, aI (kG κ) 1300 f34), (a 35, aI (kG κ) 13000 f35), (a 36, aI (kG κ) 606 f36)]) (rest := []) C mi_X9_fails (c_X9_fails _ _ a (upd (upd v 10 (nI (rsB r + 1))) 12 (nI (max (rsP r) d))) f17 f21 4 t ky d (by first | assumption | omega)) 0 dX9_begins_137 rfl wl_X9_126 rfl rfl rfl (pm_sel [0, 2, 3, 1, 4, 5, 6, 7, 8, 9, 10, 11, 12, 13, 14, 15, 16, 17] 18 (by decide +kernel) rfl rfl) rfl rfl (Nat.le_of_ble_eq_true rfl) (Nat.le_of_ble_eq_true rfl) (Nat.le_of_ble_eq_true rfl) (Nat.zero_le _) (Nat.zero_le _) (fun v9 w9 R_32 => ?_)
                  obtain ⟨gA, rfl, rfl, hgA⟩ := R_32
                  show WW κ 0 0 [(a 0, mO a (upd (upd (upd (upd (upd (upd v 10 (nI (rsB r + 1))) 12 (nI (max (rsP r) d))) 9 (nI 4)) 14 (nI t)) 15 (nI ky)) 16 (nI d))), (a 17, aI (kG κ) 12 gA), (a 21, aI (kG κ) 12 f21), (a 1, aI (kG κ) 800 f1), (a 22, aI (kG κ) 12 f22), (a 23, aI (kG κ) 12 f23), (a 24, aI (kG κ) 12 f24), (a 25, aI (kG κ) 12 f25), (a 26, aI (kG κ) 12 f26), (a 27, aI (kG κ) 12 f27), (a 28, aI (kG κ) 12 f28), (a 29, aZ (kG κ) 4 f29), (a 31, aI (kG κ) 1300 f31), (a 32, aI (kG κ) 1300 f32), (a 33, aI (kG κ) 1300 f33), (a 34, aI (kG κ) 1300 f34), (a 35, aI (kG κ) 13000 f35), (a 36, aI (kG κ) 606 f36)] 140 [(0, .ref (a 0)), (1, .int (nI kd)), (2, .int (nI t)), (3, .int (nI ky)), (4, .int (nI nm)), (5, .int (nI d))] []
                  refine ww_sel (l := [(a 0, mO a (upd (upd (upd (upd (upd (upd v 10 (nI (rsB r + 1))) 12 (nI (max (rsP r) d))) 9 (nI 4)) 14 (nI t)) 15 (nI ky)) 16 (nI d))), (a 1, aI (kG κ) 800 f1), (a 17, aI (kG κ) 12 gA), (a 21, aI (kG κ) 12 f21), (a 22, aI (kG κ) 12 f22), (a 23, aI (kG κ) 12 f23), (a 24, aI (kG κ) 12 f24), (a 25, aI (kG κ) 12 f25), (a 26, aI (kG κ) 12 f26), (a 27, aI (kG κ) 12 f27), (a 28, aI (kG κ) 12 f28), (a 29, aZ (kG κ) 4 f29), (a 31, aI (kG κ) 1300 f31), (a 32, aI (kG κ) 1300 f32), (a 33, aI (kG κ) 1300 f33), (a 34, aI (kG κ) 1300 f34), (a 35, aI (kG κ) 13000 f35), (a 36, aI (kG κ) 606 f36)]) (pm_sel [0, 3, 1, 2, 4, 5, 6, 7, 8, 9, 10, 11, 12, 13, 14, 15, 16, 17] 18 (by decide +kernel) rfl rfl) ?_
                  exact w_vret C E dX9_begins_140 rfl (Nat.le_refl _) (Nat.le_refl _) ⟨fs, (failS (begS r d) 4 t ky ch), _, _, _, _, _, _, _, _, _, _, _, _, _, _, _, _, _, _, rfl, rfl, (MM_fail (MM_beg hM hb1 (by omega : d ≤ 8)) (by decide) (by decide) ht hy hc (by omega) hx hp hgA), (by subst hc; exact congrArg (finS g fs) (car_5 (by omega) (by omega) hmt hgw hlf)), (by show (100 - (rsB r + 1)) * 40 + msL fs ≤ (100 - rsB r) * 40 + msL fs; omega)⟩
                · have hlf : ch ≠ [] ∧ cL g = 1 := ⟨fun z => by subst z; exact absurd hc (by show ¬ 0 = d; omega), by omega⟩
                  refine w_aload_n (nx := 119) C 0 dX9_begins_118 rfl rfl rfl ?_
                  refine w_dup (nx := 120) C dX9_begins_119 rfl rfl ?_
                  refine w_getM (nx := 123) C (.int (v 11)) 0 11 dX9_begins_120 rfl wl_X9_140 rfl (by decide) rfl (mg_11 _ _) ?_
                  refine w_top (nI (rsL r)) hv11 ?_
                  refine w_iconst (nx := 124) C (nI 1) dX9_begins_123 rfl (by decide) ?_
                  refine w_iadd (nx := 125) C (nI (rsL r + 1)) dX9_begins_124 rfl (nI_add _ _) ?_
                  refine w_putM (nx := 128) (ws2 := [(a 0, mO a (upd (upd (upd v 10 (nI (rsB r + 1))) 12 (nI (max (rsP r) d))) 11 (nI (rsL r + 1)))), (a 1, aI (kG κ) 800 f1), (a 17, aI (kG κ) 12 f17), (a 21, aI (kG κ) 12 f21), (a 22, aI (kG κ) 12 f22), (a 23, aI (kG κ) 12 f23), (a 24, aI (kG κ) 12 f24), (a 25, aI (kG κ) 12 f25), (a 26, aI (kG κ) 12 f26), (a 27, aI (kG κ) 12 f27), (a 28, aI (kG κ) 12 f28), (a 29, aZ (kG κ) 4 f29), (a 31, aI (kG κ) 1300 f31), (a 32, aI (kG κ) 1300 f32), (a 33, aI (kG κ) 1300 f33), (a 34, aI (kG κ) 1300 f34), (a 35, aI (kG κ) 13000 f35), (a 36, aI (kG κ) 606 f36)]) C 0 11 dX9_begins_125 rfl wl_X9_140 rfl (by decide) rfl rfl rfl (ms_11 _ _ _) rfl ?_
                  refine w_goto (nx := 140) C dX9_begins_128 rfl ?_
                  exact w_vret C E dX9_begins_140 rfl (Nat.le_refl _) (Nat.le_refl _) ⟨fs, (lftS (begS r d)), _, _, _, _, _, _, _, _, _, _, _, _, _, _, _, _, _, _, rfl, rfl, (MM_lft (MM_beg hM hb1 (by omega : d ≤ 8))), (by subst hc; exact congrArg (finS g fs) (car_4 (by omega) (by omega) hmt hgw hlf)), (by show (100 - (rsB r + 1)) * 40 + msL fs ≤ (100 - rsB r) * 40 + msL fs; omega)⟩
          · have hmt := h_20
            refine w_aload_n (nx := 82) C 0 dX9_begins_81 rfl rfl rfl ?_
            refine w_iconst (nx := 83) C (nI 3) dX9_begins_82 rfl (by decide) ?_
            refine w_iload_n (nx := 84) C 2 dX9_begins_83 rfl rfl rfl ?_
            refine w_iload_n (nx := 85) C 3 dX9_begins_84 rfl rfl rfl ?_
            refine w_iload (nx := 87) C 5 dX9_begins_85 rfl rfl ?_
            refine w_callV (nx := 90) (wr := [(a 1, aI (kG κ) 800 f1), (a 22, aI (kG κ) 12 f22), (a 23, aI (kG κ) 12 f23), (a 24, aI (kG κ) 12 f24), (a 25, aI (kG κ) 12 f25), (a 26, aI (kG κ) 12 f26), (a 27, aI (kG κ) 12 f27), (a 28, aI (kG κ) 12 f28), (a 29, aZ (kG κ) 4 f29), (a 31, aI (kG κ) 1300 f31), (a 32, aI (kG κ) 1300 f32), (a 33, aI (kG κ) 1300 f33), (a 34, aI (kG κ) 1300 f34), (a 35, aI (kG κ) 13000 f35), (a 36, aI (kG κ) 606 f36)]) (rest := []) C mi_X9_fails (c_X9_fails _ _ a (upd (upd v 10 (nI (rsB r + 1))) 12 (nI (max (rsP r) d))) f17 f21 3 t ky d (by first | assumption | omega)) 0 dX9_begins_87 rfl wl_X9_126 rfl rfl rfl (pm_sel [0, 2, 3, 1, 4, 5, 6, 7, 8, 9, 10, 11, 12, 13, 14, 15, 16, 17] 18 (by decide +kernel) rfl rfl) rfl rfl (Nat.le_of_ble_eq_true rfl) (Nat.le_of_ble_eq_true rfl) (Nat.le_of_ble_eq_true rfl) (Nat.zero_le _) (Nat.zero_le _) (fun v9 w9 R_33 => ?_)
            obtain ⟨gA, rfl, rfl, hgA⟩ := R_33
            show WW κ 0 0 [(a 0, mO a (upd (upd (upd (upd (upd (upd v 10 (nI (rsB r + 1))) 12 (nI (max (rsP r) d))) 9 (nI 3)) 14 (nI t)) 15 (nI ky)) 16 (nI d))), (a 17, aI (kG κ) 12 gA), (a 21, aI (kG κ) 12 f21), (a 1, aI (kG κ) 800 f1), (a 22, aI (kG κ) 12 f22), (a 23, aI (kG κ) 12 f23), (a 24, aI (kG κ) 12 f24), (a 25, aI (kG κ) 12 f25), (a 26, aI (kG κ) 12 f26), (a 27, aI (kG κ) 12 f27), (a 28, aI (kG κ) 12 f28), (a 29, aZ (kG κ) 4 f29), (a 31, aI (kG κ) 1300 f31), (a 32, aI (kG κ) 1300 f32), (a 33, aI (kG κ) 1300 f33), (a 34, aI (kG κ) 1300 f34), (a 35, aI (kG κ) 13000 f35), (a 36, aI (kG κ) 606 f36)] 90 [(0, .ref (a 0)), (1, .int (nI kd)), (2, .int (nI t)), (3, .int (nI ky)), (4, .int (nI nm)), (5, .int (nI d))] []
            refine ww_sel (l := [(a 0, mO a (upd (upd (upd (upd (upd (upd v 10 (nI (rsB r + 1))) 12 (nI (max (rsP r) d))) 9 (nI 3)) 14 (nI t)) 15 (nI ky)) 16 (nI d))), (a 1, aI (kG κ) 800 f1), (a 17, aI (kG κ) 12 gA), (a 21, aI (kG κ) 12 f21), (a 22, aI (kG κ) 12 f22), (a 23, aI (kG κ) 12 f23), (a 24, aI (kG κ) 12 f24), (a 25, aI (kG κ) 12 f25), (a 26, aI (kG κ) 12 f26), (a 27, aI (kG κ) 12 f27), (a 28, aI (kG κ) 12 f28), (a 29, aZ (kG κ) 4 f29), (a 31, aI (kG κ) 1300 f31), (a 32, aI (kG κ) 1300 f32), (a 33, aI (kG κ) 1300 f33), (a 34, aI (kG κ) 1300 f34), (a 35, aI (kG κ) 13000 f35), (a 36, aI (kG κ) 606 f36)]) (pm_sel [0, 3, 1, 2, 4, 5, 6, 7, 8, 9, 10, 11, 12, 13, 14, 15, 16, 17] 18 (by decide +kernel) rfl rfl) ?_
            exact w_vret C E dX9_begins_90 rfl (Nat.le_refl _) (Nat.le_refl _) ⟨fs, (failS (begS r d) 3 t ky ch), _, _, _, _, _, _, _, _, _, _, _, _, _, _, _, _, _, _, rfl, rfl, (MM_fail (MM_beg hM hb1 (by omega : d ≤ 8)) (by decide) (by decide) ht hy hc (by omega) hx hp hgA), (by subst hc; exact congrArg (finS g fs) (car_3 (by omega) (by omega) hmt)), (by show (100 - (rsB r + 1)) * 40 + msL fs ≤ (100 - rsB r) * 40 + msL fs; omega)⟩
        exact LP_19 
    · have hb1 : 100 ≤ rsB r := by omega
      refine w_aload_n (nx := 31) C 0 dX9_begins_30 rfl rfl rfl ?_
      refine w_iconst (nx := 32) C (nI 2) dX9_begins_31 rfl (by decide) ?_
      refine w_iload_n (nx := 33) C 2 dX9_begins_32 rfl rfl rfl ?_
      refine w_iload_n (nx := 34) C 3 dX9_begins_33 rfl rfl rfl ?_
      refine w_iload (nx := 36) C 5 dX9_begins_34 rfl rfl ?_
      refine w_callV (nx := 39) (wr := [(a 1, aI (kG κ) 800 f1), (a 22, aI (kG κ) 12 f22), (a 23, aI (kG κ) 12 f23), (a 24, aI (kG κ) 12 f24), (a 25, aI (kG κ) 12 f25), (a 26, aI (kG κ) 12 f26), (a 27, aI (kG κ) 12 f27), (a 28, aI (kG κ) 12 f28), (a 29, aZ (kG κ) 4 f29), (a 31, aI (kG κ) 1300 f31), (a 32, aI (kG κ) 1300 f32), (a 33, aI (kG κ) 1300 f33), (a 34, aI (kG κ) 1300 f34), (a 35, aI (kG κ) 13000 f35), (a 36, aI (kG κ) 606 f36)]) (rest := []) C mi_X9_fails (c_X9_fails _ _ a v f17 f21 2 t ky d (by first | assumption | omega)) 0 dX9_begins_36 rfl wl_X9_126 rfl rfl rfl (pm_sel [0, 2, 3, 1, 4, 5, 6, 7, 8, 9, 10, 11, 12, 13, 14, 15, 16, 17] 18 (by decide +kernel) rfl rfl) rfl rfl (Nat.le_of_ble_eq_true rfl) (Nat.le_of_ble_eq_true rfl) (Nat.le_of_ble_eq_true rfl) (Nat.zero_le _) (Nat.zero_le _) (fun v9 w9 R_34 => ?_)
      obtain ⟨gA, rfl, rfl, hgA⟩ := R_34
      show WW κ 0 0 [(a 0, mO a (upd (upd (upd (upd v 9 (nI 2)) 14 (nI t)) 15 (nI ky)) 16 (nI d))), (a 17, aI (kG κ) 12 gA), (a 21, aI (kG κ) 12 f21), (a 1, aI (kG κ) 800 f1), (a 22, aI (kG κ) 12 f22), (a 23, aI (kG κ) 12 f23), (a 24, aI (kG κ) 12 f24), (a 25, aI (kG κ) 12 f25), (a 26, aI (kG κ) 12 f26), (a 27, aI (kG κ) 12 f27), (a 28, aI (kG κ) 12 f28), (a 29, aZ (kG κ) 4 f29), (a 31, aI (kG κ) 1300 f31), (a 32, aI (kG κ) 1300 f32), (a 33, aI (kG κ) 1300 f33), (a 34, aI (kG κ) 1300 f34), (a 35, aI (kG κ) 13000 f35), (a 36, aI (kG κ) 606 f36)] 39 [(0, .ref (a 0)), (1, .int (nI kd)), (2, .int (nI t)), (3, .int (nI ky)), (4, .int (nI nm)), (5, .int (nI d))] []
      refine ww_sel (l := [(a 0, mO a (upd (upd (upd (upd v 9 (nI 2)) 14 (nI t)) 15 (nI ky)) 16 (nI d))), (a 1, aI (kG κ) 800 f1), (a 17, aI (kG κ) 12 gA), (a 21, aI (kG κ) 12 f21), (a 22, aI (kG κ) 12 f22), (a 23, aI (kG κ) 12 f23), (a 24, aI (kG κ) 12 f24), (a 25, aI (kG κ) 12 f25), (a 26, aI (kG κ) 12 f26), (a 27, aI (kG κ) 12 f27), (a 28, aI (kG κ) 12 f28), (a 29, aZ (kG κ) 4 f29), (a 31, aI (kG κ) 1300 f31), (a 32, aI (kG κ) 1300 f32), (a 33, aI (kG κ) 1300 f33), (a 34, aI (kG κ) 1300 f34), (a 35, aI (kG κ) 13000 f35), (a 36, aI (kG κ) 606 f36)]) (pm_sel [0, 3, 1, 2, 4, 5, 6, 7, 8, 9, 10, 11, 12, 13, 14, 15, 16, 17] 18 (by decide +kernel) rfl rfl) ?_
      exact w_vret C E dX9_begins_39 rfl (Nat.le_refl _) (Nat.le_refl _) ⟨fs, (failS r 2 t ky ch), _, _, _, _, _, _, _, _, _, _, _, _, _, _, _, _, _, _, rfl, rfl, (MM_fail hM (by decide) (by decide) ht hy hc (by omega) hx hp hgA), (by subst hc; exact congrArg (finS g fs) (car_2 (by omega) hb1)), (Nat.le_refl _)⟩
  · have hd1 : cD g < d := by omega
    refine w_aload_n (nx := 12) C 0 dX9_begins_11 rfl rfl rfl ?_
    refine w_iconst (nx := 13) C (nI 1) dX9_begins_12 rfl (by decide) ?_
    refine w_iload_n (nx := 14) C 2 dX9_begins_13 rfl rfl rfl ?_
    refine w_iload_n (nx := 15) C 3 dX9_begins_14 rfl rfl rfl ?_
    refine w_iload (nx := 17) C 5 dX9_begins_15 rfl rfl ?_
    refine w_callV (nx := 20) (wr := [(a 1, aI (kG κ) 800 f1), (a 22, aI (kG κ) 12 f22), (a 23, aI (kG κ) 12 f23), (a 24, aI (kG κ) 12 f24), (a 25, aI (kG κ) 12 f25), (a 26, aI (kG κ) 12 f26), (a 27, aI (kG κ) 12 f27), (a 28, aI (kG κ) 12 f28), (a 29, aZ (kG κ) 4 f29), (a 31, aI (kG κ) 1300 f31), (a 32, aI (kG κ) 1300 f32), (a 33, aI (kG κ) 1300 f33), (a 34, aI (kG κ) 1300 f34), (a 35, aI (kG κ) 13000 f35), (a 36, aI (kG κ) 606 f36)]) (rest := []) C mi_X9_fails (c_X9_fails _ _ a v f17 f21 1 t ky d (by first | assumption | omega)) 0 dX9_begins_17 rfl wl_X9_126 rfl rfl rfl (pm_sel [0, 2, 3, 1, 4, 5, 6, 7, 8, 9, 10, 11, 12, 13, 14, 15, 16, 17] 18 (by decide +kernel) rfl rfl) rfl rfl (Nat.le_of_ble_eq_true rfl) (Nat.le_of_ble_eq_true rfl) (Nat.le_of_ble_eq_true rfl) (Nat.zero_le _) (Nat.zero_le _) (fun v9 w9 R_35 => ?_)
    obtain ⟨gA, rfl, rfl, hgA⟩ := R_35
    show WW κ 0 0 [(a 0, mO a (upd (upd (upd (upd v 9 (nI 1)) 14 (nI t)) 15 (nI ky)) 16 (nI d))), (a 17, aI (kG κ) 12 gA), (a 21, aI (kG κ) 12 f21), (a 1, aI (kG κ) 800 f1), (a 22, aI (kG κ) 12 f22), (a 23, aI (kG κ) 12 f23), (a 24, aI (kG κ) 12 f24), (a 25, aI (kG κ) 12 f25), (a 26, aI (kG κ) 12 f26), (a 27, aI (kG κ) 12 f27), (a 28, aI (kG κ) 12 f28), (a 29, aZ (kG κ) 4 f29), (a 31, aI (kG κ) 1300 f31), (a 32, aI (kG κ) 1300 f32), (a 33, aI (kG κ) 1300 f33), (a 34, aI (kG κ) 1300 f34), (a 35, aI (kG κ) 13000 f35), (a 36, aI (kG κ) 606 f36)] 20 [(0, .ref (a 0)), (1, .int (nI kd)), (2, .int (nI t)), (3, .int (nI ky)), (4, .int (nI nm)), (5, .int (nI d))] []
    refine ww_sel (l := [(a 0, mO a (upd (upd (upd (upd v 9 (nI 1)) 14 (nI t)) 15 (nI ky)) 16 (nI d))), (a 1, aI (kG κ) 800 f1), (a 17, aI (kG κ) 12 gA), (a 21, aI (kG κ) 12 f21), (a 22, aI (kG κ) 12 f22), (a 23, aI (kG κ) 12 f23), (a 24, aI (kG κ) 12 f24), (a 25, aI (kG κ) 12 f25), (a 26, aI (kG κ) 12 f26), (a 27, aI (kG κ) 12 f27), (a 28, aI (kG κ) 12 f28), (a 29, aZ (kG κ) 4 f29), (a 31, aI (kG κ) 1300 f31), (a 32, aI (kG κ) 1300 f32), (a 33, aI (kG κ) 1300 f33), (a 34, aI (kG κ) 1300 f34), (a 35, aI (kG κ) 13000 f35), (a 36, aI (kG κ) 606 f36)]) (pm_sel [0, 3, 1, 2, 4, 5, 6, 7, 8, 9, 10, 11, 12, 13, 14, 15, 16, 17] 18 (by decide +kernel) rfl rfl) ?_
    exact w_vret C E dX9_begins_20 rfl (Nat.le_refl _) (Nat.le_refl _) ⟨fs, (failS r 1 t ky ch), _, _, _, _, _, _, _, _, _, _, _, _, _, _, _, _, _, _, rfl, rfl, (MM_fail hM (by decide) (by decide) ht hy hc (by omega) hx hp hgA), (by subst hc; exact congrArg (finS g fs) (car_1 (by omega))), (Nat.le_refl _)⟩
set_option maxHeartbeats 4000000 in
set_option maxRecDepth 100000 in
theorem c_X9_does (l : Launch) (G : GG) (a : Nat → Nat) (v : Nat → Int32) (f1 : Nat → Int32) (f17 : Nat → Int32) (f21 : Nat → Int32) (f22 : Nat → Int32) (f23 : Nat → Int32) (f24 : Nat → Int32) (f25 : Nat → Int32) (f26 : Nat → Int32) (f27 : Nat → Int32) (f28 : Nat → Int32) (f29 : Nat → Int32) (f31 : Nat → Int32) (f32 : Nat → Int32) (f33 : Nat → Int32) (f34 : Nat → Int32) (f35 : Nat → Int32) (f36 : Nat → Int32) (g : CF) (wo : Int32) (v0 : Nat → Int32) (f0 : Nat → Int32) (low : Nat) (fs : List FR) (r : RS) (i : Nat) (t : Nat) (ky : Nat) (d : Nat) (ch : List Nat) (f : Nat) (hM : MM g wo v0 f0 low 0 0 fs r v f1 f17 f21 f22 f23 f24 f25 f26 f27 f28 f29 f31 f32 f33 f34 f35 f36) (hr : rsn r = 0) (hi : i < (cR g).1) (ht : t < 4) (hy : ky < 100) (hc : ch.length = d) (hcD : d ≤ cD g) (hx : ∀ x ∈ ch, x < 12) (hp : rCh f21 ch) (hl : low + fs.length = d + 1) (hf : 9 ≤ f + d) : MT l G yX9_does cX9_does 5 none 6 0 0 [.ref (a 0), .int (nI i), .int (nI t), .int (nI ky), .int (nI d)] [(a 0, mO a v), (a 1, aI G 800 f1), (a 17, aI G 12 f17), (a 21, aI G 12 f21), (a 22, aI G 12 f22), (a 23, aI G 12 f23), (a 24, aI G 12 f24), (a 25, aI G 12 f25), (a 26, aI G 12 f26), (a 27, aI G 12 f27), (a 28, aI G 12 f28), (a 29, aZ G 4 f29), (a 31, aI G 1300 f31), (a 32, aI G 1300 f32), (a 33, aI G 1300 f33), (a 34, aI G 1300 f34), (a 35, aI G 13000 f35), (a 36, aI G 606 f36)] (fun v9 ws9 => ∃ (fs2 : List FR) (r2 : RS) (v2 : Nat → Int32) (g1 : Nat → Int32) (g17 : Nat → Int32) (g21 : Nat → Int32) (g22 : Nat → Int32) (g23 : Nat → Int32) (g24 : Nat → Int32) (g25 : Nat → Int32) (g26 : Nat → Int32) (g27 : Nat → Int32) (g28 : Nat → Int32) (g29 : Nat → Int32) (g31 : Nat → Int32) (g32 : Nat → Int32) (g33 : Nat → Int32) (g34 : Nat → Int32) (g35 : Nat → Int32) (g36 : Nat → Int32), v9 = none ∧ ws9 = [(a 0, mO a v2), (a 1, aI G 800 g1), (a 17, aI G 12 g17), (a 21, aI G 12 g21), (a 22, aI G 12 g22), (a 23, aI G 12 g23), (a 24, aI G 12 g24), (a 25, aI G 12 g25), (a 26, aI G 12 g26), (a 27, aI G 12 g27), (a 28, aI G 12 g28), (a 29, aZ G 4 g29), (a 31, aI G 1300 g31), (a 32, aI G 1300 g32), (a 33, aI G 1300 g33), (a 34, aI G 1300 g34), (a 35, aI G 13000 g35), (a 36, aI G 606 g36)] ∧ MM g wo v0 f0 low 0 0 fs2 r2 v2 g1 g17 g21 g22 g23 g24 g25 g26 g27 g28 g29 g31 g32 g33 g34 g35 g36 ∧ finS g fs2 r2 = finS g fs (deedS g (car g f (mkS fs)) t ky ch i r) ∧ msS fs2 r2 ≤ msS fs r) := by
  refine MT.of RX9 [(0, .ref (a 0)), (1, .int (nI i)), (2, .int (nI t)), (3, .int (nI ky)), (4, .int (nI d))] (by decide +kernel) rfl rfl (Nat.le_of_ble_eq_true rfl) (fun κ C E hl9 hG9 hnm9 => ?_)
  subst hl9; subst hG9
  obtain ⟨hgC, ⟨hD8, hL1, hn12⟩, hf0, hf1, hmR, hmT, hwT, hb100, hjb, hw1200, hP8, hmv, hl9, h18, hwo⟩ := MM_bas hM
  obtain ⟨hv9, hv10, hv11, hv12, hv13, hv16, hv19, hv30⟩ := MM_v hM
  have hi9 := hgC.2.2.2 i hi
  have hM3 := MM_path (i := i) hM hl
  have hp3 := rCh_app (i := i) hc hp
  have hx3 := x_app hx (show i < 12 by omega)
  refine w_aload_n (nx := 1) C 0 dX9_does_0 rfl rfl rfl ?_
  refine w_getM (nx := 4) C (.ref (a 21)) 0 21 dX9_does_1 rfl wl_X9_36 rfl (by decide) rfl (mg_21 _ _) ?_
  refine w_iload (nx := 6) C 4 dX9_does_4 rfl rfl ?_
  refine w_iload_n (nx := 7) C 1 dX9_does_6 rfl rfl rfl ?_
  refine w_iast (nx := 8) (ws2 := [(a 0, mO a v), (a 1, aI (kG κ) 800 f1), (a 17, aI (kG κ) 12 f17), (a 21, aI (kG κ) 12 (upd f21 d (nI i))), (a 22, aI (kG κ) 12 f22), (a 23, aI (kG κ) 12 f23), (a 24, aI (kG κ) 12 f24), (a 25, aI (kG κ) 12 f25), (a 26, aI (kG κ) 12 f26), (a 27, aI (kG κ) 12 f27), (a 28, aI (kG κ) 12 f28), (a 29, aZ (kG κ) 4 f29), (a 31, aI (kG κ) 1300 f31), (a 32, aI (kG κ) 1300 f32), (a 33, aI (kG κ) 1300 f33), (a 34, aI (kG κ) 1300 f34), (a 35, aI (kG κ) 13000 f35), (a 36, aI (kG κ) 606 f36)]) C 3 d dX9_does_7 rfl rfl (by decide) rfl (by omega) rfl ?_
  refine w_aload_n (nx := 9) C 0 dX9_does_8 rfl rfl rfl ?_
  refine w_iload_n (nx := 10) C 1 dX9_does_9 rfl rfl rfl ?_
  refine w_iconst (nx := 11) C (nI 4) dX9_does_10 rfl (by decide) ?_
  refine w_callV (nx := 14) (wr := [(a 17, aI (kG κ) 12 f17), (a 21, aI (kG κ) 12 (upd f21 d (nI i))), (a 22, aI (kG κ) 12 f22), (a 23, aI (kG κ) 12 f23), (a 24, aI (kG κ) 12 f24), (a 25, aI (kG κ) 12 f25), (a 26, aI (kG κ) 12 f26), (a 27, aI (kG κ) 12 f27), (a 28, aI (kG κ) 12 f28), (a 29, aZ (kG κ) 4 f29), (a 31, aI (kG κ) 1300 f31), (a 32, aI (kG κ) 1300 f32), (a 33, aI (kG κ) 1300 f33), (a 34, aI (kG κ) 1300 f34), (a 35, aI (kG κ) 13000 f35), (a 36, aI (kG κ) 606 f36)]) (rest := []) C mi_X9_of (c_X9_of _ _ a v f1 i 4 (nI ((cR g).2 i 4)) (by first | assumption | omega) (by first | assumption | omega) (hmR.2.1 i hi 4 (by decide))) 0 dX9_does_11 rfl wl_X9_146 rfl rfl rfl (pm_sel [0, 1, 2, 3, 4, 5, 6, 7, 8, 9, 10, 11, 12, 13, 14, 15, 16, 17] 18 (by decide +kernel) rfl rfl) rfl rfl (Nat.le_of_ble_eq_true rfl) (Nat.le_of_ble_eq_true rfl) (Nat.le_of_ble_eq_true rfl) (Nat.zero_le _) (Nat.zero_le _) (fun v9 w9 R_1 => ?_)
  obtain ⟨rfl, rfl⟩ := R_1
  show WW κ 0 0 [(a 0, mO a v), (a 1, aI (kG κ) 800 f1), (a 17, aI (kG κ) 12 f17), (a 21, aI (kG κ) 12 (upd f21 d (nI i))), (a 22, aI (kG κ) 12 f22), (a 23, aI (kG κ) 12 f23), (a 24, aI (kG κ) 12 f24), (a 25, aI (kG κ) 12 f25), (a 26, aI (kG κ) 12 f26), (a 27, aI (kG κ) 12 f27), (a 28, aI (kG κ) 12 f28), (a 29, aZ (kG κ) 4 f29), (a 31, aI (kG κ) 1300 f31), (a 32, aI (kG κ) 1300 f32), (a 33, aI (kG κ) 1300 f33), (a 34, aI (kG κ) 1300 f34), (a 35, aI (kG κ) 13000 f35), (a 36, aI (kG κ) 606 f36)] 14 [(0, .ref (a 0)), (1, .int (nI i)), (2, .int (nI t)), (3, .int (nI ky)), (4, .int (nI d))] [.int (nI ((cR g).2 i 4))]
  refine n_if_ne (tg := 31) (nx := 17) C dX9_does_14 rfl rfl (by omega) (fun h_2 => ?_) (fun h_2 => ?_)
  · have hd0 : ¬ (cR g).2 i 4 = 0 := by omega
    refine w_aload_n (nx := 32) C 0 dX9_does_31 rfl rfl rfl ?_
    refine w_aload_n (nx := 33) C 0 dX9_does_32 rfl rfl rfl ?_
    refine w_iload_n (nx := 34) C 1 dX9_does_33 rfl rfl rfl ?_
    refine w_iconst (nx := 35) C (nI 4) dX9_does_34 rfl (by decide) ?_
    refine w_callV (nx := 38) (wr := [(a 17, aI (kG κ) 12 f17), (a 21, aI (kG κ) 12 (upd f21 d (nI i))), (a 22, aI (kG κ) 12 f22), (a 23, aI (kG κ) 12 f23), (a 24, aI (kG κ) 12 f24), (a 25, aI (kG κ) 12 f25), (a 26, aI (kG κ) 12 f26), (a 27, aI (kG κ) 12 f27), (a 28, aI (kG κ) 12 f28), (a 29, aZ (kG κ) 4 f29), (a 31, aI (kG κ) 1300 f31), (a 32, aI (kG κ) 1300 f32), (a 33, aI (kG κ) 1300 f33), (a 34, aI (kG κ) 1300 f34), (a 35, aI (kG κ) 13000 f35), (a 36, aI (kG κ) 606 f36)]) (rest := [.ref (a 0)]) C mi_X9_of (c_X9_of _ _ a v f1 i 4 (nI ((cR g).2 i 4)) (by first | assumption | omega) (by first | assumption | omega) (hmR.2.1 i hi 4 (by decide))) 0 dX9_does_35 rfl wl_X9_146 rfl rfl rfl (pm_sel [0, 1, 2, 3, 4, 5, 6, 7, 8, 9, 10, 11, 12, 13, 14, 15, 16, 17] 18 (by decide +kernel) rfl rfl) rfl rfl (Nat.le_of_ble_eq_true rfl) (Nat.le_of_ble_eq_true rfl) (Nat.le_of_ble_eq_true rfl) (Nat.zero_le _) (Nat.zero_le _) (fun v9 w9 R_3 => ?_)
    obtain ⟨rfl, rfl⟩ := R_3
    show WW κ 0 0 [(a 0, mO a v), (a 1, aI (kG κ) 800 f1), (a 17, aI (kG κ) 12 f17), (a 21, aI (kG κ) 12 (upd f21 d (nI i))), (a 22, aI (kG κ) 12 f22), (a 23, aI (kG κ) 12 f23), (a 24, aI (kG κ) 12 f24), (a 25, aI (kG κ) 12 f25), (a 26, aI (kG κ) 12 f26), (a 27, aI (kG κ) 12 f27), (a 28, aI (kG κ) 12 f28), (a 29, aZ (kG κ) 4 f29), (a 31, aI (kG κ) 1300 f31), (a 32, aI (kG κ) 1300 f32), (a 33, aI (kG κ) 1300 f33), (a 34, aI (kG κ) 1300 f34), (a 35, aI (kG κ) 13000 f35), (a 36, aI (kG κ) 606 f36)] 38 [(0, .ref (a 0)), (1, .int (nI i)), (2, .int (nI t)), (3, .int (nI ky)), (4, .int (nI d))] [.int (nI ((cR g).2 i 4)), .ref (a 0)]
    refine w_iconst (nx := 39) C (nI 1) dX9_does_38 rfl (by decide) ?_
    refine w_isub (nx := 40) C (nI ((cR g).2 i 4 - 1)) dX9_does_39 rfl (pk_sub (by omega)) ?_
    refine w_aload_n (nx := 41) C 0 dX9_does_40 rfl rfl rfl ?_
    refine w_iload_n (nx := 42) C 1 dX9_does_41 rfl rfl rfl ?_
    refine w_iconst (nx := 43) C (nI 5) dX9_does_42 rfl (by decide) ?_
    refine w_callV (nx := 46) (wr := [(a 17, aI (kG κ) 12 f17), (a 21, aI (kG κ) 12 (upd f21 d (nI i))), (a 22, aI (kG κ) 12 f22), (a 23, aI (kG κ) 12 f23), (a 24, aI (kG κ) 12 f24), (a 25, aI (kG κ) 12 f25), (a 26, aI (kG κ) 12 f26), (a 27, aI (kG κ) 12 f27), (a 28, aI (kG κ) 12 f28), (a 29, aZ (kG κ) 4 f29), (a 31, aI (kG κ) 1300 f31), (a 32, aI (kG κ) 1300 f32), (a 33, aI (kG κ) 1300 f33), (a 34, aI (kG κ) 1300 f34), (a 35, aI (kG κ) 13000 f35), (a 36, aI (kG κ) 606 f36)]) (rest := [.int (nI ((cR g).2 i 4 - 1)), .ref (a 0)]) C mi_X9_of (c_X9_of _ _ a v f1 i 5 (nI ((cR g).2 i 5)) (by first | assumption | omega) (by first | assumption | omega) (hmR.2.1 i hi 5 (by decide))) 0 dX9_does_43 rfl wl_X9_146 rfl rfl rfl (pm_sel [0, 1, 2, 3, 4, 5, 6, 7, 8, 9, 10, 11, 12, 13, 14, 15, 16, 17] 18 (by decide +kernel) rfl rfl) rfl rfl (Nat.le_of_ble_eq_true rfl) (Nat.le_of_ble_eq_true rfl) (Nat.le_of_ble_eq_true rfl) (Nat.zero_le _) (Nat.zero_le _) (fun v9 w9 R_4 => ?_)
    obtain ⟨rfl, rfl⟩ := R_4
    show WW κ 0 0 [(a 0, mO a v), (a 1, aI (kG κ) 800 f1), (a 17, aI (kG κ) 12 f17), (a 21, aI (kG κ) 12 (upd f21 d (nI i))), (a 22, aI (kG κ) 12 f22), (a 23, aI (kG κ) 12 f23), (a 24, aI (kG κ) 12 f24), (a 25, aI (kG κ) 12 f25), (a 26, aI (kG κ) 12 f26), (a 27, aI (kG κ) 12 f27), (a 28, aI (kG κ) 12 f28), (a 29, aZ (kG κ) 4 f29), (a 31, aI (kG κ) 1300 f31), (a 32, aI (kG κ) 1300 f32), (a 33, aI (kG κ) 1300 f33), (a 34, aI (kG κ) 1300 f34), (a 35, aI (kG κ) 13000 f35), (a 36, aI (kG κ) 606 f36)] 46 [(0, .ref (a 0)), (1, .int (nI i)), (2, .int (nI t)), (3, .int (nI ky)), (4, .int (nI d))] [.int (nI ((cR g).2 i 5)), .int (nI ((cR g).2 i 4 - 1)), .ref (a 0)]
    refine w_iload_n (nx := 47) C 3 dX9_does_46 rfl rfl rfl ?_
    refine w_aload_n (nx := 48) C 0 dX9_does_47 rfl rfl rfl ?_
    refine w_iload_n (nx := 49) C 1 dX9_does_48 rfl rfl rfl ?_
    refine w_bipush (nx := 51) C (nI 6) dX9_does_49 rfl (by decide) ?_
    refine w_callV (nx := 54) (wr := [(a 17, aI (kG κ) 12 f17), (a 21, aI (kG κ) 12 (upd f21 d (nI i))), (a 22, aI (kG κ) 12 f22), (a 23, aI (kG κ) 12 f23), (a 24, aI (kG κ) 12 f24), (a 25, aI (kG κ) 12 f25), (a 26, aI (kG κ) 12 f26), (a 27, aI (kG κ) 12 f27), (a 28, aI (kG κ) 12 f28), (a 29, aZ (kG κ) 4 f29), (a 31, aI (kG κ) 1300 f31), (a 32, aI (kG κ) 1300 f32), (a 33, aI (kG κ) 1300 f33), (a 34, aI (kG κ) 1300 f34), (a 35, aI (kG κ) 13000 f35), (a 36, aI (kG κ) 606 f36)]) (rest := [.int (nI ky), .int (nI ((cR g).2 i 5)), .int (nI ((cR g).2 i 4 - 1)), .ref (a 0)]) C mi_X9_of (c_X9_of _ _ a v f1 i 6 (nI ((cR g).2 i 6)) (by first | assumption | omega) (by first | assumption | omega) (hmR.2.1 i hi 6 (by decide))) 0 dX9_does_51 rfl wl_X9_146 rfl rfl rfl (pm_sel [0, 1, 2, 3, 4, 5, 6, 7, 8, 9, 10, 11, 12, 13, 14, 15, 16, 17] 18 (by decide +kernel) rfl rfl) rfl rfl (Nat.le_of_ble_eq_true rfl) (Nat.le_of_ble_eq_true rfl) (Nat.le_of_ble_eq_true rfl) (Nat.zero_le _) (Nat.zero_le _) (fun v9 w9 R_5 => ?_)
    obtain ⟨rfl, rfl⟩ := R_5
    show WW κ 0 0 [(a 0, mO a v), (a 1, aI (kG κ) 800 f1), (a 17, aI (kG κ) 12 f17), (a 21, aI (kG κ) 12 (upd f21 d (nI i))), (a 22, aI (kG κ) 12 f22), (a 23, aI (kG κ) 12 f23), (a 24, aI (kG κ) 12 f24), (a 25, aI (kG κ) 12 f25), (a 26, aI (kG κ) 12 f26), (a 27, aI (kG κ) 12 f27), (a 28, aI (kG κ) 12 f28), (a 29, aZ (kG κ) 4 f29), (a 31, aI (kG κ) 1300 f31), (a 32, aI (kG κ) 1300 f32), (a 33, aI (kG κ) 1300 f33), (a 34, aI (kG κ) 1300 f34), (a 35, aI (kG κ) 13000 f35), (a 36, aI (kG κ) 606 f36)] 54 [(0, .ref (a 0)), (1, .int (nI i)), (2, .int (nI t)), (3, .int (nI ky)), (4, .int (nI d))] [.int (nI ((cR g).2 i 6)), .int (nI ky), .int (nI ((cR g).2 i 5)), .int (nI ((cR g).2 i 4 - 1)), .ref (a 0)]
    refine w_iadd (nx := 55) C (nI (ky + (cR g).2 i 6)) dX9_does_54 rfl (nI_add _ _) ?_
    refine w_bipush (nx := 57) C (nI 100) dX9_does_55 rfl (by decide) ?_
    refine w_irem (nx := 58) C (nI ((ky + (cR g).2 i 6) % 100)) dX9_does_57 rfl (nI_nz (by omega) (by omega)) (pk_rem (by omega) (by omega) (by omega)) ?_
    refine w_aload_n (nx := 59) C 0 dX9_does_58 rfl rfl rfl ?_
    refine w_iload_n (nx := 60) C 1 dX9_does_59 rfl rfl rfl ?_
    refine w_bipush (nx := 62) C (nI 7) dX9_does_60 rfl (by decide) ?_
    refine w_callV (nx := 65) (wr := [(a 17, aI (kG κ) 12 f17), (a 21, aI (kG κ) 12 (upd f21 d (nI i))), (a 22, aI (kG κ) 12 f22), (a 23, aI (kG κ) 12 f23), (a 24, aI (kG κ) 12 f24), (a 25, aI (kG κ) 12 f25), (a 26, aI (kG κ) 12 f26), (a 27, aI (kG κ) 12 f27), (a 28, aI (kG κ) 12 f28), (a 29, aZ (kG κ) 4 f29), (a 31, aI (kG κ) 1300 f31), (a 32, aI (kG κ) 1300 f32), (a 33, aI (kG κ) 1300 f33), (a 34, aI (kG κ) 1300 f34), (a 35, aI (kG κ) 13000 f35), (a 36, aI (kG κ) 606 f36)]) (rest := [.int (nI ((ky + (cR g).2 i 6) % 100)), .int (nI ((cR g).2 i 5)), .int (nI ((cR g).2 i 4 - 1)), .ref (a 0)]) C mi_X9_of (c_X9_of _ _ a v f1 i 7 (nI ((cR g).2 i 7)) (by first | assumption | omega) (by first | assumption | omega) (hmR.2.1 i hi 7 (by decide))) 0 dX9_does_62 rfl wl_X9_146 rfl rfl rfl (pm_sel [0, 1, 2, 3, 4, 5, 6, 7, 8, 9, 10, 11, 12, 13, 14, 15, 16, 17] 18 (by decide +kernel) rfl rfl) rfl rfl (Nat.le_of_ble_eq_true rfl) (Nat.le_of_ble_eq_true rfl) (Nat.le_of_ble_eq_true rfl) (Nat.zero_le _) (Nat.zero_le _) (fun v9 w9 R_6 => ?_)
    obtain ⟨rfl, rfl⟩ := R_6
    show WW κ 0 0 [(a 0, mO a v), (a 1, aI (kG κ) 800 f1), (a 17, aI (kG κ) 12 f17), (a 21, aI (kG κ) 12 (upd f21 d (nI i))), (a 22, aI (kG κ) 12 f22), (a 23, aI (kG κ) 12 f23), (a 24, aI (kG κ) 12 f24), (a 25, aI (kG κ) 12 f25), (a 26, aI (kG κ) 12 f26), (a 27, aI (kG κ) 12 f27), (a 28, aI (kG κ) 12 f28), (a 29, aZ (kG κ) 4 f29), (a 31, aI (kG κ) 1300 f31), (a 32, aI (kG κ) 1300 f32), (a 33, aI (kG κ) 1300 f33), (a 34, aI (kG κ) 1300 f34), (a 35, aI (kG κ) 13000 f35), (a 36, aI (kG κ) 606 f36)] 65 [(0, .ref (a 0)), (1, .int (nI i)), (2, .int (nI t)), (3, .int (nI ky)), (4, .int (nI d))] [.int (nI ((cR g).2 i 7)), .int (nI ((ky + (cR g).2 i 6) % 100)), .int (nI ((cR g).2 i 5)), .int (nI ((cR g).2 i 4 - 1)), .ref (a 0)]
    refine w_iload (nx := 67) C 4 dX9_does_65 rfl rfl ?_
    refine w_iconst (nx := 68) C (nI 1) dX9_does_67 rfl (by decide) ?_
    refine w_iadd (nx := 69) C (nI (d + 1)) dX9_does_68 rfl (nI_add _ _) ?_
    refine w_callV (nx := 72) (wr := []) (rest := []) C mi_X9_begins (c_X9_begins _ _ a v f1 f17 (upd f21 d (nI i)) f22 f23 f24 f25 f26 f27 f28 f29 f31 f32 f33 f34 f35 f36 g wo v0 f0 low fs r ((cR g).2 i 4 - 1) ((cR g).2 i 5) ((ky + (cR g).2 i 6) % 100) ((cR g).2 i 7) (d + 1) (ch ++ [i]) f (hM3) (by first | assumption | omega) (by first | assumption | omega) (by first | assumption | omega) (Nat.mod_lt _ (by decide)) (by first | assumption | omega) ((len_app.trans (congrArg (fun z => z + 1) hc))) (by first | assumption | omega) (hx3) (hp3) (by first | assumption | omega) (by first | assumption | omega)) 0 dX9_does_69 rfl wl_X9_149 rfl rfl rfl (pm_sel [0, 1, 2, 3, 4, 5, 6, 7, 8, 9, 10, 11, 12, 13, 14, 15, 16, 17] 18 (by decide +kernel) rfl rfl) rfl rfl (Nat.le_of_ble_eq_true rfl) (Nat.le_of_ble_eq_true rfl) (Nat.le_of_ble_eq_true rfl) (Nat.zero_le _) (Nat.zero_le _) (fun v9 w9 R_7 => ?_)
    obtain ⟨fs9, r9, v2_8, g1_9, g17_10, g21_11, g22_12, g23_13, g24_14, g25_15, g26_16, g27_17, g28_18, g29_19, g31_20, g32_21, g33_22, g34_23, g35_24, g36_25, rfl, rfl, hM9, hf9, hm9⟩ := R_7
    show WW κ 0 0 [(a 0, mO a v2_8), (a 1, aI (kG κ) 800 g1_9), (a 17, aI (kG κ) 12 g17_10), (a 21, aI (kG κ) 12 g21_11), (a 22, aI (kG κ) 12 g22_12), (a 23, aI (kG κ) 12 g23_13), (a 24, aI (kG κ) 12 g24_14), (a 25, aI (kG κ) 12 g25_15), (a 26, aI (kG κ) 12 g26_16), (a 27, aI (kG κ) 12 g27_17), (a 28, aI (kG κ) 12 g28_18), (a 29, aZ (kG κ) 4 g29_19), (a 31, aI (kG κ) 1300 g31_20), (a 32, aI (kG κ) 1300 g32_21), (a 33, aI (kG κ) 1300 g33_22), (a 34, aI (kG κ) 1300 g34_23), (a 35, aI (kG κ) 13000 g35_24), (a 36, aI (kG κ) 606 g36_25)] 72 [(0, .ref (a 0)), (1, .int (nI i)), (2, .int (nI t)), (3, .int (nI ky)), (4, .int (nI d))] []
    exact w_vret C E dX9_does_72 rfl (Nat.le_refl _) (Nat.le_refl _) ⟨fs9, r9, _, _, _, _, _, _, _, _, _, _, _, _, _, _, _, _, _, _, rfl, rfl, (hM9), (hf9.trans (congrArg (finS g fs) (deed_1 hd0))), (hm9)⟩
  · have hd0 : (cR g).2 i 4 = 0 := by omega
    refine w_aload_n (nx := 18) C 0 dX9_does_17 rfl rfl rfl ?_
    refine w_iconst (nx := 19) C (nI 5) dX9_does_18 rfl (by decide) ?_
    refine w_iload_n (nx := 20) C 2 dX9_does_19 rfl rfl rfl ?_
    refine w_iload_n (nx := 21) C 3 dX9_does_20 rfl rfl rfl ?_
    refine w_iload (nx := 23) C 4 dX9_does_21 rfl rfl ?_
    refine w_iconst (nx := 24) C (nI 1) dX9_does_23 rfl (by decide) ?_
    refine w_iadd (nx := 25) C (nI (d + 1)) dX9_does_24 rfl (nI_add _ _) ?_
    refine w_callV (nx := 28) (wr := [(a 1, aI (kG κ) 800 f1), (a 22, aI (kG κ) 12 f22), (a 23, aI (kG κ) 12 f23), (a 24, aI (kG κ) 12 f24), (a 25, aI (kG κ) 12 f25), (a 26, aI (kG κ) 12 f26), (a 27, aI (kG κ) 12 f27), (a 28, aI (kG κ) 12 f28), (a 29, aZ (kG κ) 4 f29), (a 31, aI (kG κ) 1300 f31), (a 32, aI (kG κ) 1300 f32), (a 33, aI (kG κ) 1300 f33), (a 34, aI (kG κ) 1300 f34), (a 35, aI (kG κ) 13000 f35), (a 36, aI (kG κ) 606 f36)]) (rest := []) C mi_X9_fails (c_X9_fails _ _ a v f17 (upd f21 d (nI i)) 5 t ky (d + 1) (by first | assumption | omega)) 0 dX9_does_25 rfl wl_X9_126 rfl rfl rfl (pm_sel [0, 2, 3, 1, 4, 5, 6, 7, 8, 9, 10, 11, 12, 13, 14, 15, 16, 17] 18 (by decide +kernel) rfl rfl) rfl rfl (Nat.le_of_ble_eq_true rfl) (Nat.le_of_ble_eq_true rfl) (Nat.le_of_ble_eq_true rfl) (Nat.zero_le _) (Nat.zero_le _) (fun v9 w9 R_26 => ?_)
    obtain ⟨gA, rfl, rfl, hgA⟩ := R_26
    show WW κ 0 0 [(a 0, mO a (upd (upd (upd (upd v 9 (nI 5)) 14 (nI t)) 15 (nI ky)) 16 (nI (d + 1)))), (a 17, aI (kG κ) 12 gA), (a 21, aI (kG κ) 12 (upd f21 d (nI i))), (a 1, aI (kG κ) 800 f1), (a 22, aI (kG κ) 12 f22), (a 23, aI (kG κ) 12 f23), (a 24, aI (kG κ) 12 f24), (a 25, aI (kG κ) 12 f25), (a 26, aI (kG κ) 12 f26), (a 27, aI (kG κ) 12 f27), (a 28, aI (kG κ) 12 f28), (a 29, aZ (kG κ) 4 f29), (a 31, aI (kG κ) 1300 f31), (a 32, aI (kG κ) 1300 f32), (a 33, aI (kG κ) 1300 f33), (a 34, aI (kG κ) 1300 f34), (a 35, aI (kG κ) 13000 f35), (a 36, aI (kG κ) 606 f36)] 28 [(0, .ref (a 0)), (1, .int (nI i)), (2, .int (nI t)), (3, .int (nI ky)), (4, .int (nI d))] []
    refine w_goto (nx := 72) C dX9_does_28 rfl ?_
    refine ww_sel (l := [(a 0, mO a (upd (upd (upd (upd v 9 (nI 5)) 14 (nI t)) 15 (nI ky)) 16 (nI (d + 1)))), (a 1, aI (kG κ) 800 f1), (a 17, aI (kG κ) 12 gA), (a 21, aI (kG κ) 12 (upd f21 d (nI i))), (a 22, aI (kG κ) 12 f22), (a 23, aI (kG κ) 12 f23), (a 24, aI (kG κ) 12 f24), (a 25, aI (kG κ) 12 f25), (a 26, aI (kG κ) 12 f26), (a 27, aI (kG κ) 12 f27), (a 28, aI (kG κ) 12 f28), (a 29, aZ (kG κ) 4 f29), (a 31, aI (kG κ) 1300 f31), (a 32, aI (kG κ) 1300 f32), (a 33, aI (kG κ) 1300 f33), (a 34, aI (kG κ) 1300 f34), (a 35, aI (kG κ) 13000 f35), (a 36, aI (kG κ) 606 f36)]) (pm_sel [0, 3, 1, 2, 4, 5, 6, 7, 8, 9, 10, 11, 12, 13, 14, 15, 16, 17] 18 (by decide +kernel) rfl rfl) ?_
    exact w_vret C E dX9_does_72 rfl (Nat.le_refl _) (Nat.le_refl _) ⟨fs, (failS r 5 t ky (ch ++ [i])), _, _, _, _, _, _, _, _, _, _, _, _, _, _, _, _, _, _, rfl, rfl, (MM_fail hM3 (by decide) (by decide) ht hy (len_app.trans (congrArg (fun z => z + 1) hc)) (by omega) hx3 hp3 hgA), (congrArg (finS g fs) (deed_0 hd0)), (Nat.le_refl _)⟩
set_option maxHeartbeats 4000000 in
set_option maxRecDepth 100000 in
theorem c_X9_goesOn (l : Launch) (G : GG) (a : Nat → Nat) (v : Nat → Int32) (f1 : Nat → Int32) (f17 : Nat → Int32) (f21 : Nat → Int32) (f22 : Nat → Int32) (f23 : Nat → Int32) (f24 : Nat → Int32) (f25 : Nat → Int32) (f26 : Nat → Int32) (f27 : Nat → Int32) (f28 : Nat → Int32) (f29 : Nat → Int32) (f31 : Nat → Int32) (f32 : Nat → Int32) (f33 : Nat → Int32) (f34 : Nat → Int32) (f35 : Nat → Int32) (f36 : Nat → Int32) (g : CF) (wo : Int32) (v0 : Nat → Int32) (f0 : Nat → Int32) (low : Nat) (fs : List FR) (r : RS) (kd : Nat) (t : Nat) (ky : Nat) (nm : Nat) (w : Nat) (st : Nat) (nx : Nat) (ch : List Nat) (f : Nat) (d : Nat) (hM : MM g wo v0 f0 low 0 0 ((kd, t, ky, nm, w, st, nx, ch, f) :: fs) r v f1 f17 f21 f22 f23 f24 f25 f26 f27 f28 f29 f31 f32 f33 f34 f35 f36) (hr : rsn r = 0) (hd : ch.length = d) : MT l G yX9_goesOn cX9_goesOn 5 none 7 0 0 [.ref (a 0)] [(a 0, mO a v), (a 1, aI G 800 f1), (a 17, aI G 12 f17), (a 21, aI G 12 f21), (a 22, aI G 12 f22), (a 23, aI G 12 f23), (a 24, aI G 12 f24), (a 25, aI G 12 f25), (a 26, aI G 12 f26), (a 27, aI G 12 f27), (a 28, aI G 12 f28), (a 29, aZ G 4 f29), (a 31, aI G 1300 f31), (a 32, aI G 1300 f32), (a 33, aI G 1300 f33), (a 34, aI G 1300 f34), (a 35, aI G 13000 f35), (a 36, aI G 606 f36)] (fun v9 ws9 => ∃ (fs2 : List FR) (r2 : RS) (v2 : Nat → Int32) (g1 : Nat → Int32) (g17 : Nat → Int32) (g21 : Nat → Int32) (g22 : Nat → Int32) (g23 : Nat → Int32) (g24 : Nat → Int32) (g25 : Nat → Int32) (g26 : Nat → Int32) (g27 : Nat → Int32) (g28 : Nat → Int32) (g29 : Nat → Int32) (g31 : Nat → Int32) (g32 : Nat → Int32) (g33 : Nat → Int32) (g34 : Nat → Int32) (g35 : Nat → Int32) (g36 : Nat → Int32), v9 = none ∧ ws9 = [(a 0, mO a v2), (a 1, aI G 800 g1), (a 17, aI G 12 g17), (a 21, aI G 12 g21), (a 22, aI G 12 g22), (a 23, aI G 12 g23), (a 24, aI G 12 g24), (a 25, aI G 12 g25), (a 26, aI G 12 g26), (a 27, aI G 12 g27), (a 28, aI G 12 g28), (a 29, aZ G 4 g29), (a 31, aI G 1300 g31), (a 32, aI G 1300 g32), (a 33, aI G 1300 g33), (a 34, aI G 1300 g34), (a 35, aI G 13000 g35), (a 36, aI G 606 g36)] ∧ MM g wo v0 f0 low 0 0 fs2 r2 v2 g1 g17 g21 g22 g23 g24 g25 g26 g27 g28 g29 g31 g32 g33 g34 g35 g36 ∧ finS g fs2 r2 = finS g ((kd, t, ky, nm, w, st, nx, ch, f) :: fs) r ∧ msS fs2 r2 < msS ((kd, t, ky, nm, w, st, nx, ch, f) :: fs) r) := by
  refine MT.of RX9 [(0, .ref (a 0))] (by decide +kernel) rfl rfl (Nat.le_of_ble_eq_true rfl) (fun κ C E hl9 hG9 hnm9 => ?_)
  subst hl9; subst hG9
  obtain ⟨hgC, ⟨hD8, hL1, hn12⟩, hf0, hf1, hmR, hmT, hwT, hb100, hjb, hw1200, hP8, hmv, hl9, h18, hwo⟩ := MM_bas hM
  obtain ⟨hv9, hv10, hv11, hv12, hv13, hv16, hv19, hv30⟩ := MM_v hM
  obtain ⟨h20, h22, h23, h24, h25, h26, h27, h28, hp, hk, ht, hy, hn, hw, hst, hnx, hx, hcD, hf, hgw, hld⟩ := MM_top hM hd
  refine w_aload_n (nx := 1) C 0 dX9_goesOn_0 rfl rfl rfl ?_
  refine w_getM (nx := 4) C (.int (v 20)) 0 20 dX9_goesOn_1 rfl wl_X9_143 rfl (by decide) rfl (mg_20 _ _) ?_
  refine w_top (nI d) h20 ?_
  refine w_istore_n (nx := 5) (lo2 := [(1, .int (nI d)), (0, .ref (a 0))]) C dX9_goesOn_4 rfl rfl (by decide) rfl ?_
  refine w_aload_n (nx := 6) C 1 dX9_goesOn_5 rfl rfl rfl ?_
  refine w_getM (nx := 9) C (.ref (a 27)) 0 27 dX9_goesOn_6 rfl wl_X9_54 rfl (by decide) rfl (mg_27 _ _) ?_
  refine w_iload_n (nx := 10) C 0 dX9_goesOn_9 rfl rfl rfl ?_
  refine w_iald (nx := 11) C (nI st) 9 d dX9_goesOn_10 rfl rfl (by decide) rfl (by omega) h27 ?_
  refine w_istore_n (nx := 12) (lo2 := [(2, .int (nI st)), (1, .int (nI d)), (0, .ref (a 0))]) C dX9_goesOn_11 rfl rfl (by decide) rfl ?_
  refine w_aload_n (nx := 13) C 2 dX9_goesOn_12 rfl rfl rfl ?_
  refine w_getM (nx := 16) C (.ref (a 28)) 0 28 dX9_goesOn_13 rfl wl_X9_57 rfl (by decide) rfl (mg_28 _ _) ?_
  refine w_iload_n (nx := 17) C 1 dX9_goesOn_16 rfl rfl rfl ?_
  refine w_iald (nx := 18) C (nI nx) 10 d dX9_goesOn_17 rfl rfl (by decide) rfl (by omega) h28 ?_
  refine w_istore_n (nx := 19) (lo2 := [(3, .int (nI nx)), (2, .int (nI st)), (1, .int (nI d)), (0, .ref (a 0))]) C dX9_goesOn_18 rfl rfl (by decide) rfl ?_
  refine w_iload_n (nx := 20) C 0 dX9_goesOn_19 rfl rfl rfl ?_
  refine w_aload_n (nx := 21) C 3 dX9_goesOn_20 rfl rfl rfl ?_
  refine w_getM (nx := 24) C (.ref (a 1)) 0 1 dX9_goesOn_21 rfl wl_X9_7 rfl (by decide) rfl (mg_1 _ _) ?_
  refine w_bipush (nx := 26) C (nI 102) dX9_goesOn_24 rfl (by decide) ?_
  refine w_iald (nx := 27) C (nI ((cR g).1)) 1 102 dX9_goesOn_26 rfl rfl (by decide) rfl (by omega) hmR.1 ?_
  refine n_icmp_ge (tg := 92) (nx := 30) C dX9_goesOn_27 rfl rfl (by omega) (by omega) (fun h_1 => ?_) (fun h_1 => ?_)
  · have hnn : nx = (cR g).1 := by omega
    refine w_iload_n (nx := 93) C 1 dX9_goesOn_92 rfl rfl rfl ?_
    refine n_if_ne (tg := 101) (nx := 96) C dX9_goesOn_93 rfl rfl (by omega) (fun h_2 => ?_) (fun h_2 => ?_)
    · have hst0 : ¬ st = 0 := by omega
      refine w_aload_n (nx := 102) C 3 dX9_goesOn_101 rfl rfl rfl ?_
      refine w_getM (nx := 105) C (.ref (a 28)) 0 28 dX9_goesOn_102 rfl wl_X9_57 rfl (by decide) rfl (mg_28 _ _) ?_
      refine w_iload_n (nx := 106) C 2 dX9_goesOn_105 rfl rfl rfl ?_
      refine w_iconst (nx := 107) C (nI 0) dX9_goesOn_106 rfl (by decide) ?_
      refine w_iast (nx := 108) (ws2 := [(a 0, mO a v), (a 1, aI (kG κ) 800 f1), (a 17, aI (kG κ) 12 f17), (a 21, aI (kG κ) 12 f21), (a 22, aI (kG κ) 12 f22), (a 23, aI (kG κ) 12 f23), (a 24, aI (kG κ) 12 f24), (a 25, aI (kG κ) 12 f25), (a 26, aI (kG κ) 12 f26), (a 27, aI (kG κ) 12 f27), (a 28, aI (kG κ) 12 (upd f28 d (nI 0))), (a 29, aZ (kG κ) 4 f29), (a 31, aI (kG κ) 1300 f31), (a 32, aI (kG κ) 1300 f32), (a 33, aI (kG κ) 1300 f33), (a 34, aI (kG κ) 1300 f34), (a 35, aI (kG κ) 13000 f35), (a 36, aI (kG κ) 606 f36)]) C 10 d dX9_goesOn_107 rfl rfl (by decide) rfl (by omega) rfl ?_
      refine w_aload_n (nx := 109) C 3 dX9_goesOn_108 rfl rfl rfl ?_
      refine w_getM (nx := 112) C (.ref (a 27)) 0 27 dX9_goesOn_109 rfl wl_X9_54 rfl (by decide) rfl (mg_27 _ _) ?_
      refine w_iload_n (nx := 113) C 2 dX9_goesOn_112 rfl rfl rfl ?_
      refine w_dup2 (nx := 114) C dX9_goesOn_113 rfl rfl rfl ?_
      refine w_iald (nx := 115) C (nI st) 9 d dX9_goesOn_114 rfl rfl (by decide) rfl (by omega) h27 ?_
      refine w_iconst (nx := 116) C (nI 1) dX9_goesOn_115 rfl (by decide) ?_
      refine w_iadd (nx := 117) C (nI (st + 1)) dX9_goesOn_116 rfl (nI_add _ _) ?_
      refine w_iast (nx := 118) (ws2 := [(a 0, mO a v), (a 1, aI (kG κ) 800 f1), (a 17, aI (kG κ) 12 f17), (a 21, aI (kG κ) 12 f21), (a 22, aI (kG κ) 12 f22), (a 23, aI (kG κ) 12 f23), (a 24, aI (kG κ) 12 f24), (a 25, aI (kG κ) 12 f25), (a 26, aI (kG κ) 12 f26), (a 27, aI (kG κ) 12 (upd f27 d (nI (st + 1)))), (a 28, aI (kG κ) 12 (upd f28 d (nI 0))), (a 29, aZ (kG κ) 4 f29), (a 31, aI (kG κ) 1300 f31), (a 32, aI (kG κ) 1300 f32), (a 33, aI (kG κ) 1300 f33), (a 34, aI (kG κ) 1300 f34), (a 35, aI (kG κ) 13000 f35), (a 36, aI (kG κ) 606 f36)]) C 9 d dX9_goesOn_117 rfl rfl (by decide) rfl (by omega) rfl ?_
      refine w_iload_n (nx := 119) C 1 dX9_goesOn_118 rfl rfl rfl ?_
      refine w_iconst (nx := 120) C (nI 2) dX9_goesOn_119 rfl (by decide) ?_
      refine n_icmp_ne (tg := 145) (nx := 123) C dX9_goesOn_120 rfl rfl (by omega) (by omega) (fun h_3 => ?_) (fun h_3 => ?_)
      · exact w_vret C E dX9_goesOn_145 rfl (Nat.le_refl _) (Nat.le_refl _) ⟨((kd, t, ky, nm, w, 2, 0, ch, f) :: fs), r, _, _, _, _, _, _, _, _, _, _, _, _, _, _, _, _, _, _, rfl, rfl, (MM_st1 (show MM g wo v0 f0 low 0 0 ((kd, t, ky, nm, w, 1, nx, ch, f) :: fs) r v f1 f17 f21 f22 f23 f24 f25 f26 f27 f28 f29 f31 f32 f33 f34 f35 f36 from by have e9 : st = 1 := (by omega); rw [e9] at hM; exact hM) hd (congrArg nI (by omega))), (by have e9 : st = 1 := (by omega); rw [e9]; exact (fin_st1 hr hnn).symm), (by show (100 - rsB r) * 40 + (msL fs + ((3 - 2) * 13 - 0)) < (100 - rsB r) * 40 + (msL fs + ((3 - st) * 13 - nx)); omega)⟩
      · have hst2 : st = 2 := by omega
        have hM4 := hM
        rw [hst2] at hM4
        refine w_aload_n (nx := 124) C 3 dX9_goesOn_123 rfl rfl rfl ?_
        refine w_getM (nx := 127) C (.ref (a 29)) 0 29 dX9_goesOn_124 rfl wl_X9_60 rfl (by decide) rfl (mg_29 _ _) ?_
        refine w_aload_n (nx := 128) C 3 dX9_goesOn_127 rfl rfl rfl ?_
        refine w_getM (nx := 131) C (.ref (a 23)) 0 23 dX9_goesOn_128 rfl wl_X9_42 rfl (by decide) rfl (mg_23 _ _) ?_
        refine w_iload_n (nx := 132) C 2 dX9_goesOn_131 rfl rfl rfl ?_
        refine w_iald (nx := 133) C (nI t) 5 d dX9_goesOn_132 rfl rfl (by decide) rfl (by omega) h23 ?_
        refine w_iconst (nx := 134) C (nI 0) dX9_goesOn_133 rfl (by decide) ?_
        refine w_zast (nx := 135) (ws2 := [(a 0, mO a v), (a 1, aI (kG κ) 800 f1), (a 17, aI (kG κ) 12 f17), (a 21, aI (kG κ) 12 f21), (a 22, aI (kG κ) 12 f22), (a 23, aI (kG κ) 12 f23), (a 24, aI (kG κ) 12 f24), (a 25, aI (kG κ) 12 f25), (a 26, aI (kG κ) 12 f26), (a 27, aI (kG κ) 12 (upd f27 d (nI (st + 1)))), (a 28, aI (kG κ) 12 (upd f28 d (nI 0))), (a 29, aZ (kG κ) 4 (upd f29 t (nI 0))), (a 31, aI (kG κ) 1300 f31), (a 32, aI (kG κ) 1300 f32), (a 33, aI (kG κ) 1300 f33), (a 34, aI (kG κ) 1300 f34), (a 35, aI (kG κ) 13000 f35), (a 36, aI (kG κ) 606 f36)]) C (nI 0) 11 t dX9_goesOn_134 rfl rfl (by decide) rfl (by omega) rfl rfl ?_
        refine w_aload_n (nx := 136) C 3 dX9_goesOn_135 rfl rfl rfl ?_
        refine w_dup (nx := 137) C dX9_goesOn_136 rfl rfl ?_
        refine w_getM (nx := 140) C (.int (v 20)) 0 20 dX9_goesOn_137 rfl wl_X9_143 rfl (by decide) rfl (mg_20 _ _) ?_
        refine w_top (nI d) h20 ?_
        refine w_iconst (nx := 141) C (nI 1) dX9_goesOn_140 rfl (by decide) ?_
        refine w_isub (nx := 142) C (nI d - nI 1) dX9_goesOn_141 rfl rfl ?_
        refine w_putM (nx := 145) (ws2 := [(a 0, mO a (upd v 20 (nI d - nI 1))), (a 1, aI (kG κ) 800 f1), (a 17, aI (kG κ) 12 f17), (a 21, aI (kG κ) 12 f21), (a 22, aI (kG κ) 12 f22), (a 23, aI (kG κ) 12 f23), (a 24, aI (kG κ) 12 f24), (a 25, aI (kG κ) 12 f25), (a 26, aI (kG κ) 12 f26), (a 27, aI (kG κ) 12 (upd f27 d (nI (st + 1)))), (a 28, aI (kG κ) 12 (upd f28 d (nI 0))), (a 29, aZ (kG κ) 4 (upd f29 t (nI 0))), (a 31, aI (kG κ) 1300 f31), (a 32, aI (kG κ) 1300 f32), (a 33, aI (kG κ) 1300 f33), (a 34, aI (kG κ) 1300 f34), (a 35, aI (kG κ) 13000 f35), (a 36, aI (kG κ) 606 f36)]) C 0 20 dX9_goesOn_142 rfl wl_X9_143 rfl (by decide) rfl rfl rfl (ms_20 _ _ _) rfl ?_
        exact w_vret C E dX9_goesOn_145 rfl (Nat.le_refl _) (Nat.le_refl _) ⟨fs, r, _, _, _, _, _, _, _, _, _, _, _, _, _, _, _, _, _, _, rfl, rfl, (MM_pop hM4 hd (by omega)), (by rw [hst2]; exact (fin_pop hr hnn).symm), (by show (100 - rsB r) * 40 + msL fs < (100 - rsB r) * 40 + (msL fs + ((3 - st) * 13 - nx)); omega)⟩
    · have hst0 : st = 0 := by omega
      have hJ9 : (rsJ r).1 < 100 := by
        have z9 : (rsJ r).1 + rsL r + (kS fs + (if st = 0 then 1 else 0)) + 0 ≤ rsB r := hjb
        rw [if_pos hst0] at z9
        omega
      have hM4 := hM
      rw [hst0] at hM4
      refine w_aload_n (nx := 97) C 3 dX9_goesOn_96 rfl rfl rfl ?_
      refine w_iload_n (nx := 98) C 2 dX9_goesOn_97 rfl rfl rfl ?_
      refine w_callV (nx := 101) (wr := [(a 17, aI (kG κ) 12 f17), (a 27, aI (kG κ) 12 f27), (a 28, aI (kG κ) 12 f28), (a 29, aZ (kG κ) 4 f29), (a 31, aI (kG κ) 1300 f31), (a 32, aI (kG κ) 1300 f32), (a 33, aI (kG κ) 1300 f33), (a 34, aI (kG κ) 1300 f34), (a 35, aI (kG κ) 13000 f35)]) (rest := []) C mi_X9_isDone (c_X9_isDone _ _ a v f1 f21 f22 f23 f24 f25 f26 f36 (rsT r) (rsJ r) d kd t ky nm w ch (hmT) (hwT) (hv13) (hJ9) ((by omega)) (by first | assumption | omega) (by first | assumption | omega) (by first | assumption | omega) (by first | assumption | omega) (by first | assumption | omega) (by first | assumption | omega) (by first | assumption | omega) (by first | assumption | omega) (by first | assumption | omega) (hgw hst0) (hd) (by first | assumption | omega)) 0 dX9_goesOn_98 rfl wl_X9_176 rfl rfl rfl (pm_sel [0, 1, 3, 4, 5, 6, 7, 8, 17, 2, 9, 10, 11, 12, 13, 14, 15, 16] 18 (by decide +kernel) rfl rfl) rfl rfl (Nat.le_of_ble_eq_true rfl) (Nat.le_of_ble_eq_true rfl) (Nat.le_of_ble_eq_true rfl) (Nat.zero_le _) (Nat.zero_le _) (fun v9 w9 R_4 => ?_)
      obtain ⟨gA, rfl, rfl, hTA, hOA⟩ := R_4
      show WW κ 0 0 [(a 0, mO a (upd v 13 (nI ((rsJ r).1 + 1)))), (a 1, aI (kG κ) 800 gA), (a 21, aI (kG κ) 12 f21), (a 22, aI (kG κ) 12 f22), (a 23, aI (kG κ) 12 f23), (a 24, aI (kG κ) 12 f24), (a 25, aI (kG κ) 12 f25), (a 26, aI (kG κ) 12 f26), (a 36, aI (kG κ) 606 (upd (upd (upd (upd (upd (upd f36 (6 * (rsJ r).1) (jrow kd t ky w ch 0)) (6 * (rsJ r).1 + 1) (jrow kd t ky w ch 1)) (6 * (rsJ r).1 + 2) (jrow kd t ky w ch 2)) (6 * (rsJ r).1 + 3) (jrow kd t ky w ch 3)) (6 * (rsJ r).1 + 4) (jrow kd t ky w ch 4)) (6 * (rsJ r).1 + 5) (jrow kd t ky w ch 5))), (a 17, aI (kG κ) 12 f17), (a 27, aI (kG κ) 12 f27), (a 28, aI (kG κ) 12 f28), (a 29, aZ (kG κ) 4 f29), (a 31, aI (kG κ) 1300 f31), (a 32, aI (kG κ) 1300 f32), (a 33, aI (kG κ) 1300 f33), (a 34, aI (kG κ) 1300 f34), (a 35, aI (kG κ) 13000 f35)] 101 [(3, .int (nI nx)), (2, .int (nI st)), (1, .int (nI d)), (0, .ref (a 0))] []
      refine w_aload_n (nx := 102) C 3 dX9_goesOn_101 rfl rfl rfl ?_
      refine w_getM (nx := 105) C (.ref (a 28)) 0 28 dX9_goesOn_102 rfl wl_X9_57 rfl (by decide) rfl (mg_28 _ _) ?_
      refine w_iload_n (nx := 106) C 2 dX9_goesOn_105 rfl rfl rfl ?_
      refine w_iconst (nx := 107) C (nI 0) dX9_goesOn_106 rfl (by decide) ?_
      refine w_iast (nx := 108) (ws2 := [(a 0, mO a (upd v 13 (nI ((rsJ r).1 + 1)))), (a 1, aI (kG κ) 800 gA), (a 21, aI (kG κ) 12 f21), (a 22, aI (kG κ) 12 f22), (a 23, aI (kG κ) 12 f23), (a 24, aI (kG κ) 12 f24), (a 25, aI (kG κ) 12 f25), (a 26, aI (kG κ) 12 f26), (a 36, aI (kG κ) 606 (upd (upd (upd (upd (upd (upd f36 (6 * (rsJ r).1) (jrow kd t ky w ch 0)) (6 * (rsJ r).1 + 1) (jrow kd t ky w ch 1)) (6 * (rsJ r).1 + 2) (jrow kd t ky w ch 2)) (6 * (rsJ r).1 + 3) (jrow kd t ky w ch 3)) (6 * (rsJ r).1 + 4) (jrow kd t ky w ch 4)) (6 * (rsJ r).1 + 5) (jrow kd t ky w ch 5))), (a 17, aI (kG κ) 12 f17), (a 27, aI (kG κ) 12 f27), (a 28, aI (kG κ) 12 (upd f28 d (nI 0))), (a 29, aZ (kG κ) 4 f29), (a 31, aI (kG κ) 1300 f31), (a 32, aI (kG κ) 1300 f32), (a 33, aI (kG κ) 1300 f33), (a 34, aI (kG κ) 1300 f34), (a 35, aI (kG κ) 13000 f35)]) C 11 d dX9_goesOn_107 rfl rfl (by decide) rfl (by omega) rfl ?_
      refine w_aload_n (nx := 109) C 3 dX9_goesOn_108 rfl rfl rfl ?_
      refine w_getM (nx := 112) C (.ref (a 27)) 0 27 dX9_goesOn_109 rfl wl_X9_54 rfl (by decide) rfl (mg_27 _ _) ?_
      refine w_iload_n (nx := 113) C 2 dX9_goesOn_112 rfl rfl rfl ?_
      refine w_dup2 (nx := 114) C dX9_goesOn_113 rfl rfl rfl ?_
      refine w_iald (nx := 115) C (nI st) 10 d dX9_goesOn_114 rfl rfl (by decide) rfl (by omega) h27 ?_
      refine w_iconst (nx := 116) C (nI 1) dX9_goesOn_115 rfl (by decide) ?_
      refine w_iadd (nx := 117) C (nI (st + 1)) dX9_goesOn_116 rfl (nI_add _ _) ?_
      refine w_iast (nx := 118) (ws2 := [(a 0, mO a (upd v 13 (nI ((rsJ r).1 + 1)))), (a 1, aI (kG κ) 800 gA), (a 21, aI (kG κ) 12 f21), (a 22, aI (kG κ) 12 f22), (a 23, aI (kG κ) 12 f23), (a 24, aI (kG κ) 12 f24), (a 25, aI (kG κ) 12 f25), (a 26, aI (kG κ) 12 f26), (a 36, aI (kG κ) 606 (upd (upd (upd (upd (upd (upd f36 (6 * (rsJ r).1) (jrow kd t ky w ch 0)) (6 * (rsJ r).1 + 1) (jrow kd t ky w ch 1)) (6 * (rsJ r).1 + 2) (jrow kd t ky w ch 2)) (6 * (rsJ r).1 + 3) (jrow kd t ky w ch 3)) (6 * (rsJ r).1 + 4) (jrow kd t ky w ch 4)) (6 * (rsJ r).1 + 5) (jrow kd t ky w ch 5))), (a 17, aI (kG κ) 12 f17), (a 27, aI (kG κ) 12 (upd f27 d (nI (st + 1)))), (a 28, aI (kG κ) 12 (upd f28 d (nI 0))), (a 29, aZ (kG κ) 4 f29), (a 31, aI (kG κ) 1300 f31), (a 32, aI (kG κ) 1300 f32), (a 33, aI (kG κ) 1300 f33), (a 34, aI (kG κ) 1300 f34), (a 35, aI (kG κ) 13000 f35)]) C 10 d dX9_goesOn_117 rfl rfl (by decide) rfl (by omega) rfl ?_
      refine w_iload_n (nx := 119) C 1 dX9_goesOn_118 rfl rfl rfl ?_
      refine w_iconst (nx := 120) C (nI 2) dX9_goesOn_119 rfl (by decide) ?_
      refine n_icmp_ne (tg := 145) (nx := 123) C dX9_goesOn_120 rfl rfl (by omega) (by omega) (fun h_5 => ?_) (fun h_5 => ?_)
      · refine ww_sel (l := [(a 0, mO a (upd v 13 (nI ((rsJ r).1 + 1)))), (a 1, aI (kG κ) 800 gA), (a 17, aI (kG κ) 12 f17), (a 21, aI (kG κ) 12 f21), (a 22, aI (kG κ) 12 f22), (a 23, aI (kG κ) 12 f23), (a 24, aI (kG κ) 12 f24), (a 25, aI (kG κ) 12 f25), (a 26, aI (kG κ) 12 f26), (a 27, aI (kG κ) 12 (upd f27 d (nI (st + 1)))), (a 28, aI (kG κ) 12 (upd f28 d (nI 0))), (a 29, aZ (kG κ) 4 f29), (a 31, aI (kG κ) 1300 f31), (a 32, aI (kG κ) 1300 f32), (a 33, aI (kG κ) 1300 f33), (a 34, aI (kG κ) 1300 f34), (a 35, aI (kG κ) 13000 f35), (a 36, aI (kG κ) 606 (upd (upd (upd (upd (upd (upd f36 (6 * (rsJ r).1) (jrow kd t ky w ch 0)) (6 * (rsJ r).1 + 1) (jrow kd t ky w ch 1)) (6 * (rsJ r).1 + 2) (jrow kd t ky w ch 2)) (6 * (rsJ r).1 + 3) (jrow kd t ky w ch 3)) (6 * (rsJ r).1 + 4) (jrow kd t ky w ch 4)) (6 * (rsJ r).1 + 5) (jrow kd t ky w ch 5)))]) (pm_sel [0, 1, 9, 2, 3, 4, 5, 6, 7, 10, 11, 12, 13, 14, 15, 16, 17, 8] 18 (by decide +kernel) rfl rfl) ?_
        exact w_vret C E dX9_goesOn_145 rfl (Nat.le_refl _) (Nat.le_refl _) ⟨((kd, t, ky, nm, w, 1, 0, ch, f) :: fs), (doneS r kd t ky w ch), _, _, _, _, _, _, _, _, _, _, _, _, _, _, _, _, _, _, rfl, rfl, (MM_done hM4 hd (congrArg nI (by omega)) hTA hOA), (by rw [hst0]; exact (fin_done hr hnn).symm), (by show (100 - rsB r) * 40 + (msL fs + ((3 - 1) * 13 - 0)) < (100 - rsB r) * 40 + (msL fs + ((3 - st) * 13 - nx)); omega)⟩
      · exfalso; omega
  · have hxl : nx < (cR g).1 := by omega
    have hM1 := MM_next hM hd hxl
    refine w_aload_n (nx := 31) C 3 dX9_goesOn_30 rfl rfl rfl ?_
    refine w_getM (nx := 34) C (.ref (a 28)) 0 28 dX9_goesOn_31 rfl wl_X9_57 rfl (by decide) rfl (mg_28 _ _) ?_
    refine w_iload_n (nx := 35) C 2 dX9_goesOn_34 rfl rfl rfl ?_
    refine w_dup2 (nx := 36) C dX9_goesOn_35 rfl rfl rfl ?_
    refine w_iald (nx := 37) C (nI nx) 10 d dX9_goesOn_36 rfl rfl (by decide) rfl (by omega) h28 ?_
    refine w_iconst (nx := 38) C (nI 1) dX9_goesOn_37 rfl (by decide) ?_
    refine w_iadd (nx := 39) C (nI (nx + 1)) dX9_goesOn_38 rfl (nI_add _ _) ?_
    refine w_iast (nx := 40) (ws2 := [(a 0, mO a v), (a 1, aI (kG κ) 800 f1), (a 17, aI (kG κ) 12 f17), (a 21, aI (kG κ) 12 f21), (a 22, aI (kG κ) 12 f22), (a 23, aI (kG κ) 12 f23), (a 24, aI (kG κ) 12 f24), (a 25, aI (kG κ) 12 f25), (a 26, aI (kG κ) 12 f26), (a 27, aI (kG κ) 12 f27), (a 28, aI (kG κ) 12 (upd f28 d (nI (nx + 1)))), (a 29, aZ (kG κ) 4 f29), (a 31, aI (kG κ) 1300 f31), (a 32, aI (kG κ) 1300 f32), (a 33, aI (kG κ) 1300 f33), (a 34, aI (kG κ) 1300 f34), (a 35, aI (kG κ) 13000 f35), (a 36, aI (kG κ) 606 f36)]) C 10 d dX9_goesOn_39 rfl rfl (by decide) rfl (by omega) rfl ?_
    refine w_aload_n (nx := 41) C 3 dX9_goesOn_40 rfl rfl rfl ?_
    refine w_iload_n (nx := 42) C 0 dX9_goesOn_41 rfl rfl rfl ?_
    refine w_iload_n (nx := 43) C 2 dX9_goesOn_42 rfl rfl rfl ?_
    refine w_iload_n (nx := 44) C 1 dX9_goesOn_43 rfl rfl rfl ?_
    refine w_callV (nx := 47) (wr := [(a 17, aI (kG κ) 12 f17), (a 21, aI (kG κ) 12 f21), (a 24, aI (kG κ) 12 f24), (a 25, aI (kG κ) 12 f25), (a 27, aI (kG κ) 12 f27), (a 28, aI (kG κ) 12 (upd f28 d (nI (nx + 1)))), (a 29, aZ (kG κ) 4 f29), (a 31, aI (kG κ) 1300 f31), (a 32, aI (kG κ) 1300 f32), (a 33, aI (kG κ) 1300 f33), (a 34, aI (kG κ) 1300 f34), (a 35, aI (kG κ) 13000 f35), (a 36, aI (kG κ) 606 f36)]) (rest := []) C mi_X9_isSetOff (c_X9_isSetOff _ _ a v f1 f22 f23 f26 g wo nx d st kd t w (hmR) (hgC.2.2) (by first | assumption | omega) (by first | assumption | omega) (by first | assumption | omega) ((by omega)) (by first | assumption | omega) (by first | assumption | omega) (by first | assumption | omega) (by first | assumption | omega) (by first | assumption | omega) (by first | assumption | omega) (hw)) 0 dX9_goesOn_44 rfl wl_X9_167 rfl rfl rfl (pm_sel [0, 1, 4, 5, 8, 2, 3, 6, 7, 9, 10, 11, 12, 13, 14, 15, 16, 17] 18 (by decide +kernel) rfl rfl) rfl rfl (Nat.le_of_ble_eq_true rfl) (Nat.le_of_ble_eq_true rfl) (Nat.le_of_ble_eq_true rfl) (Nat.zero_le _) (Nat.zero_le _) (fun v9 w9 R_6 => ?_)
    obtain ⟨rfl, rfl⟩ := R_6
    show WW κ 0 0 [(a 0, mO a v), (a 1, aI (kG κ) 800 f1), (a 22, aI (kG κ) 12 f22), (a 23, aI (kG κ) 12 f23), (a 26, aI (kG κ) 12 f26), (a 17, aI (kG κ) 12 f17), (a 21, aI (kG κ) 12 f21), (a 24, aI (kG κ) 12 f24), (a 25, aI (kG κ) 12 f25), (a 27, aI (kG κ) 12 f27), (a 28, aI (kG κ) 12 (upd f28 d (nI (nx + 1)))), (a 29, aZ (kG κ) 4 f29), (a 31, aI (kG κ) 1300 f31), (a 32, aI (kG κ) 1300 f32), (a 33, aI (kG κ) 1300 f33), (a 34, aI (kG κ) 1300 f34), (a 35, aI (kG κ) 13000 f35), (a 36, aI (kG κ) 606 f36)] 47 [(3, .int (nI nx)), (2, .int (nI st)), (1, .int (nI d)), (0, .ref (a 0))] [.int (bC (soff g nx st kd t w))]
    refine w_istore (nx := 49) (lo2 := [(4, .int (bC (soff g nx st kd t w))), (3, .int (nI nx)), (2, .int (nI st)), (1, .int (nI d)), (0, .ref (a 0))]) C dX9_goesOn_47 rfl (by decide) rfl ?_
    refine w_iload (nx := 51) C 0 dX9_goesOn_49 rfl rfl ?_
    refine b_if_eq (tg := 68) (nx := 54) C dX9_goesOn_51 rfl rfl (fun h_7 => ?_) (fun h_7 => ?_)
    · have hso := h_7
      refine w_iload (nx := 70) C 0 dX9_goesOn_68 rfl rfl ?_
      refine b_if_eq (tg := 91) (nx := 73) C dX9_goesOn_70 rfl rfl (fun h_8 => ?_) (fun h_8 => ?_)
      · refine ww_sel (l := [(a 0, mO a v), (a 1, aI (kG κ) 800 f1), (a 17, aI (kG κ) 12 f17), (a 21, aI (kG κ) 12 f21), (a 22, aI (kG κ) 12 f22), (a 23, aI (kG κ) 12 f23), (a 24, aI (kG κ) 12 f24), (a 25, aI (kG κ) 12 f25), (a 26, aI (kG κ) 12 f26), (a 27, aI (kG κ) 12 f27), (a 28, aI (kG κ) 12 (upd f28 d (nI (nx + 1)))), (a 29, aZ (kG κ) 4 f29), (a 31, aI (kG κ) 1300 f31), (a 32, aI (kG κ) 1300 f32), (a 33, aI (kG κ) 1300 f33), (a 34, aI (kG κ) 1300 f34), (a 35, aI (kG κ) 13000 f35), (a 36, aI (kG κ) 606 f36)]) (pm_sel [0, 1, 5, 6, 2, 3, 7, 8, 4, 9, 10, 11, 12, 13, 14, 15, 16, 17] 18 (by decide +kernel) rfl rfl) ?_
        exact w_vret C E dX9_goesOn_91 rfl (Nat.le_refl _) (Nat.le_refl _) ⟨((kd, t, ky, nm, w, st, nx + 1, ch, f) :: fs), r, _, _, _, _, _, _, _, _, _, _, _, _, _, _, _, _, _, _, rfl, rfl, (hM1), ((fin_skip hst hr hxl hso).symm), (by show (100 - rsB r) * 40 + (msL fs + ((3 - st) * 13 - (nx + 1))) < (100 - rsB r) * 40 + (msL fs + ((3 - st) * 13 - nx)); omega)⟩
      · exact absurd h_8 hso
    · have hso := h_7
      refine w_iload_n (nx := 55) C 2 dX9_goesOn_54 rfl rfl rfl ?_
      refine w_iconst (nx := 56) C (nI 2) dX9_goesOn_55 rfl (by decide) ?_
      refine n_icmp_ne (tg := 68) (nx := 59) C dX9_goesOn_56 rfl rfl (by omega) (by omega) (fun h_9 => ?_) (fun h_9 => ?_)
      · have hst2 : st < 2 := by omega
        refine w_iload (nx := 70) C 0 dX9_goesOn_68 rfl rfl ?_
        refine b_if_eq (tg := 91) (nx := 73) C dX9_goesOn_70 rfl rfl (fun h_10 => ?_) (fun h_10 => ?_)
        · exact absurd hso h_10
        · refine w_aload_n (nx := 74) C 4 dX9_goesOn_73 rfl rfl rfl ?_
          refine w_iload_n (nx := 75) C 1 dX9_goesOn_74 rfl rfl rfl ?_
          refine w_aload_n (nx := 76) C 4 dX9_goesOn_75 rfl rfl rfl ?_
          refine w_getM (nx := 79) C (.ref (a 23)) 0 23 dX9_goesOn_76 rfl wl_X9_42 rfl (by decide) rfl (mg_23 _ _) ?_
          refine w_iload_n (nx := 80) C 3 dX9_goesOn_79 rfl rfl rfl ?_
          refine w_iald (nx := 81) C (nI t) 3 d dX9_goesOn_80 rfl rfl (by decide) rfl (by omega) h23 ?_
          refine w_aload_n (nx := 82) C 4 dX9_goesOn_81 rfl rfl rfl ?_
          refine w_getM (nx := 85) C (.ref (a 24)) 0 24 dX9_goesOn_82 rfl wl_X9_45 rfl (by decide) rfl (mg_24 _ _) ?_
          refine w_iload_n (nx := 86) C 3 dX9_goesOn_85 rfl rfl rfl ?_
          refine w_iald (nx := 87) C (nI ky) 7 d dX9_goesOn_86 rfl rfl (by decide) rfl (by omega) h24 ?_
          refine w_iload_n (nx := 88) C 3 dX9_goesOn_87 rfl rfl rfl ?_
          refine w_callV (nx := 91) (wr := []) (rest := []) C mi_X9_does (c_X9_does _ _ a v f1 f17 f21 f22 f23 f24 f25 f26 f27 (upd f28 d (nI (nx + 1))) f29 f31 f32 f33 f34 f35 f36 g wo v0 f0 low ((kd, t, ky, nm, w, st, nx + 1, ch, f) :: fs) r nx t ky d ch f (hM1) (by first | assumption | omega) (by first | assumption | omega) (by first | assumption | omega) (by first | assumption | omega) (hd) (by first | assumption | omega) (by first | assumption | omega) (by first | assumption | omega) ((congrArg (fun z => z + 1) hld)) (by first | assumption | omega)) 0 dX9_goesOn_88 rfl wl_X9_173 rfl rfl rfl (pm_sel [0, 1, 5, 6, 2, 3, 7, 8, 4, 9, 10, 11, 12, 13, 14, 15, 16, 17] 18 (by decide +kernel) rfl rfl) rfl rfl (Nat.le_of_ble_eq_true rfl) (Nat.le_of_ble_eq_true rfl) (Nat.le_of_ble_eq_true rfl) (Nat.zero_le _) (Nat.zero_le _) (fun v9 w9 R_11 => ?_)
          obtain ⟨fs9, r9, v2_12, g1_13, g17_14, g21_15, g22_16, g23_17, g24_18, g25_19, g26_20, g27_21, g28_22, g29_23, g31_24, g32_25, g33_26, g34_27, g35_28, g36_29, rfl, rfl, hM9, hf9, hm9⟩ := R_11
          show WW κ 0 0 [(a 0, mO a v2_12), (a 1, aI (kG κ) 800 g1_13), (a 17, aI (kG κ) 12 g17_14), (a 21, aI (kG κ) 12 g21_15), (a 22, aI (kG κ) 12 g22_16), (a 23, aI (kG κ) 12 g23_17), (a 24, aI (kG κ) 12 g24_18), (a 25, aI (kG κ) 12 g25_19), (a 26, aI (kG κ) 12 g26_20), (a 27, aI (kG κ) 12 g27_21), (a 28, aI (kG κ) 12 g28_22), (a 29, aZ (kG κ) 4 g29_23), (a 31, aI (kG κ) 1300 g31_24), (a 32, aI (kG κ) 1300 g32_25), (a 33, aI (kG κ) 1300 g33_26), (a 34, aI (kG κ) 1300 g34_27), (a 35, aI (kG κ) 13000 g35_28), (a 36, aI (kG κ) 606 g36_29)] 91 [(4, .int (bC (soff g nx st kd t w))), (3, .int (nI nx)), (2, .int (nI st)), (1, .int (nI d)), (0, .ref (a 0))] []
          exact w_vret C E dX9_goesOn_91 rfl (Nat.le_refl _) (Nat.le_refl _) ⟨fs9, r9, _, _, _, _, _, _, _, _, _, _, _, _, _, _, _, _, _, _, rfl, rfl, (hM9), (hf9.trans (fin_deed hst2 hr hxl hso).symm), (Nat.lt_of_le_of_lt hm9 (by show (100 - rsB r) * 40 + (msL fs + ((3 - st) * 13 - (nx + 1))) < (100 - rsB r) * 40 + (msL fs + ((3 - st) * 13 - nx)); omega))⟩
      · have hst2 : st = 2 := by omega
        have hM4 := hM
        rw [hst2] at hM4
        have hM5 := MM_next2 (st := 2) hM4 hd hxl
        refine w_aload_n (nx := 60) C 4 dX9_goesOn_59 rfl rfl rfl ?_
        refine w_iload_n (nx := 61) C 1 dX9_goesOn_60 rfl rfl rfl ?_
        refine w_iload_n (nx := 62) C 3 dX9_goesOn_61 rfl rfl rfl ?_
        refine w_callV (nx := 65) (wr := [(a 1, aI (kG κ) 800 f1), (a 22, aI (kG κ) 12 f22), (a 26, aI (kG κ) 12 f26), (a 17, aI (kG κ) 12 f17), (a 25, aI (kG κ) 12 f25), (a 27, aI (kG κ) 12 f27), (a 28, aI (kG κ) 12 (upd f28 d (nI (nx + 1)))), (a 29, aZ (kG κ) 4 f29), (a 36, aI (kG κ) 606 f36)]) (rest := []) C mi_X9_waitsFor (c_X9_waitsFor _ _ a v f21 f23 f24 f31 f32 f33 f34 f35 nx d ((rsW r).1) t ky ch (hv30) (by first | assumption | omega) ((by omega)) (by first | assumption | omega) (by first | assumption | omega) (hd) (by first | assumption | omega)) 0 dX9_goesOn_62 rfl wl_X9_170 rfl rfl rfl (pm_sel [0, 6, 3, 7, 12, 13, 14, 15, 16, 1, 2, 4, 5, 8, 9, 10, 11, 17] 18 (by decide +kernel) rfl rfl) rfl rfl (Nat.le_of_ble_eq_true rfl) (Nat.le_of_ble_eq_true rfl) (Nat.le_of_ble_eq_true rfl) (Nat.zero_le _) (Nat.zero_le _) (fun v9 w9 R_30 => ?_)
        obtain ⟨gA, rfl, rfl, eA1, eA2⟩ := R_30
        show WW κ 0 0 [(a 0, mO a (upd v 30 (nI (((rsW r).1) + 1)))), (a 21, aI (kG κ) 12 f21), (a 23, aI (kG κ) 12 f23), (a 24, aI (kG κ) 12 f24), (a 31, aI (kG κ) 1300 (upd f31 ((rsW r).1) (nI nx))), (a 32, aI (kG κ) 1300 (upd f32 ((rsW r).1) (nI t))), (a 33, aI (kG κ) 1300 (upd f33 ((rsW r).1) (nI ky))), (a 34, aI (kG κ) 1300 (upd f34 ((rsW r).1) (nI d))), (a 35, aI (kG κ) 13000 gA), (a 1, aI (kG κ) 800 f1), (a 22, aI (kG κ) 12 f22), (a 26, aI (kG κ) 12 f26), (a 17, aI (kG κ) 12 f17), (a 25, aI (kG κ) 12 f25), (a 27, aI (kG κ) 12 f27), (a 28, aI (kG κ) 12 (upd f28 d (nI (nx + 1)))), (a 29, aZ (kG κ) 4 f29), (a 36, aI (kG κ) 606 f36)] 65 [(4, .int (bC (soff g nx st kd t w))), (3, .int (nI nx)), (2, .int (nI st)), (1, .int (nI d)), (0, .ref (a 0))] []
        refine w_goto (nx := 91) C dX9_goesOn_65 rfl ?_
        refine ww_sel (l := [(a 0, mO a (upd v 30 (nI (((rsW r).1) + 1)))), (a 1, aI (kG κ) 800 f1), (a 17, aI (kG κ) 12 f17), (a 21, aI (kG κ) 12 f21), (a 22, aI (kG κ) 12 f22), (a 23, aI (kG κ) 12 f23), (a 24, aI (kG κ) 12 f24), (a 25, aI (kG κ) 12 f25), (a 26, aI (kG κ) 12 f26), (a 27, aI (kG κ) 12 f27), (a 28, aI (kG κ) 12 (upd f28 d (nI (nx + 1)))), (a 29, aZ (kG κ) 4 f29), (a 31, aI (kG κ) 1300 (upd f31 ((rsW r).1) (nI nx))), (a 32, aI (kG κ) 1300 (upd f32 ((rsW r).1) (nI t))), (a 33, aI (kG κ) 1300 (upd f33 ((rsW r).1) (nI ky))), (a 34, aI (kG κ) 1300 (upd f34 ((rsW r).1) (nI d))), (a 35, aI (kG κ) 13000 gA), (a 36, aI (kG κ) 606 f36)]) (pm_sel [0, 9, 12, 1, 10, 2, 3, 13, 11, 14, 15, 16, 4, 5, 6, 7, 8, 17] 18 (by decide +kernel) rfl rfl) ?_
        exact w_vret C E dX9_goesOn_91 rfl (Nat.le_refl _) (Nat.le_refl _) ⟨((kd, t, ky, nm, w, 2, nx + 1, ch, f) :: fs), (waitS r nx t ky ch), _, _, _, _, _, _, _, _, _, _, _, _, _, _, _, _, _, _, rfl, rfl, (MM_wait hM5 hxl ht hy hd hcD hx eA1 eA2), (by rw [hst2] at hso ⊢; exact (fin_wait hr hxl hso).symm), (by show (100 - rsB r) * 40 + (msL fs + ((3 - 2) * 13 - (nx + 1))) < (100 - rsB r) * 40 + (msL fs + ((3 - st) * 13 - nx)); omega)⟩
set_option maxHeartbeats 4000000 in
set_option maxRecDepth 100000 in
theorem c_X9_clears (l : Launch) (G : GG) (a : Nat → Nat) (v : Nat → Int32) (f1 : Nat → Int32) (f17 : Nat → Int32) (f21 : Nat → Int32) (f22 : Nat → Int32) (f23 : Nat → Int32) (f24 : Nat → Int32) (f25 : Nat → Int32) (f26 : Nat → Int32) (f27 : Nat → Int32) (f28 : Nat → Int32) (f29 : Nat → Int32) (f31 : Nat → Int32) (f32 : Nat → Int32) (f33 : Nat → Int32) (f34 : Nat → Int32) (f35 : Nat → Int32) (f36 : Nat → Int32) (g : CF) (wo : Int32) (v0 : Nat → Int32) (f0 : Nat → Int32) (low : Nat) (fs : List FR) (r : RS) (hM : MM g wo v0 f0 low 0 0 fs r v f1 f17 f21 f22 f23 f24 f25 f26 f27 f28 f29 f31 f32 f33 f34 f35 f36) : MT l G yX9_clears cX9_clears 1 none 8 0 0 [.ref (a 0)] [(a 0, mO a v), (a 1, aI G 800 f1), (a 17, aI G 12 f17), (a 21, aI G 12 f21), (a 22, aI G 12 f22), (a 23, aI G 12 f23), (a 24, aI G 12 f24), (a 25, aI G 12 f25), (a 26, aI G 12 f26), (a 27, aI G 12 f27), (a 28, aI G 12 f28), (a 29, aZ G 4 f29), (a 31, aI G 1300 f31), (a 32, aI G 1300 f32), (a 33, aI G 1300 f33), (a 34, aI G 1300 f34), (a 35, aI G 13000 f35), (a 36, aI G 606 f36)] (fun v9 ws9 => ∃ (fs2 : List FR) (r2 : RS) (v2 : Nat → Int32) (g1 : Nat → Int32) (g17 : Nat → Int32) (g21 : Nat → Int32) (g22 : Nat → Int32) (g23 : Nat → Int32) (g24 : Nat → Int32) (g25 : Nat → Int32) (g26 : Nat → Int32) (g27 : Nat → Int32) (g28 : Nat → Int32) (g29 : Nat → Int32) (g31 : Nat → Int32) (g32 : Nat → Int32) (g33 : Nat → Int32) (g34 : Nat → Int32) (g35 : Nat → Int32) (g36 : Nat → Int32), v9 = none ∧ ws9 = [(a 0, mO a v2), (a 1, aI G 800 g1), (a 17, aI G 12 g17), (a 21, aI G 12 g21), (a 22, aI G 12 g22), (a 23, aI G 12 g23), (a 24, aI G 12 g24), (a 25, aI G 12 g25), (a 26, aI G 12 g26), (a 27, aI G 12 g27), (a 28, aI G 12 g28), (a 29, aZ G 4 g29), (a 31, aI G 1300 g31), (a 32, aI G 1300 g32), (a 33, aI G 1300 g33), (a 34, aI G 1300 g34), (a 35, aI G 13000 g35), (a 36, aI G 606 g36)] ∧ MM g wo v0 f0 low 0 0 fs2 r2 v2 g1 g17 g21 g22 g23 g24 g25 g26 g27 g28 g29 g31 g32 g33 g34 g35 g36 ∧ r2 = finS g fs r ∧ (rsn r2 = 0 → fs2 = [])) := by
  refine MT.of RX9 [(0, .ref (a 0))] (by decide +kernel) rfl rfl (Nat.le_of_ble_eq_true rfl) (fun κ C E hl9 hG9 hnm9 => ?_)
  subst hl9; subst hG9
  have LP_1 : ∀ (N9_0 : Nat) (fq : List FR) (rq : RS) (vv : Nat → Int32) (k1 : Nat → Int32) (k17 : Nat → Int32) (k21 : Nat → Int32) (k22 : Nat → Int32) (k23 : Nat → Int32) (k24 : Nat → Int32) (k25 : Nat → Int32) (k26 : Nat → Int32) (k27 : Nat → Int32) (k28 : Nat → Int32) (k29 : Nat → Int32) (k31 : Nat → Int32) (k32 : Nat → Int32) (k33 : Nat → Int32) (k34 : Nat → Int32) (k35 : Nat → Int32) (k36 : Nat → Int32), (MM g wo v0 f0 low 0 0 fq rq vv k1 k17 k21 k22 k23 k24 k25 k26 k27 k28 k29 k31 k32 k33 k34 k35 k36) → (finS g fq rq = finS g fs r) → (msS fq rq) < N9_0 → WW κ 0 0 [(a 0, mO a vv), (a 1, aI (kG κ) 800 k1), (a 17, aI (kG κ) 12 k17), (a 21, aI (kG κ) 12 k21), (a 22, aI (kG κ) 12 k22), (a 23, aI (kG κ) 12 k23), (a 24, aI (kG κ) 12 k24), (a 25, aI (kG κ) 12 k25), (a 26, aI (kG κ) 12 k26), (a 27, aI (kG κ) 12 k27), (a 28, aI (kG κ) 12 k28), (a 29, aZ (kG κ) 4 k29), (a 31, aI (kG κ) 1300 k31), (a 32, aI (kG κ) 1300 k32), (a 33, aI (kG κ) 1300 k33), (a 34, aI (kG κ) 1300 k34), (a 35, aI (kG κ) 13000 k35), (a 36, aI (kG κ) 606 k36)] 0 [(0, .ref (a 0))] [] := by
    intro N9_0
    induction N9_0 with
    | zero => intro fq rq vv k1 k17 k21 k22 k23 k24 k25 k26 k27 k28 k29 k31 k32 k33 k34 k35 k36 hMq hfq hm9_0; exact absurd hm9_0 (Nat.not_lt_zero _)
    | succ N9_0 ih9_0 =>
      intro fq rq vv k1 k17 k21 k22 k23 k24 k25 k26 k27 k28 k29 k31 k32 k33 k34 k35 k36 hMq hfq hm9_0
      obtain ⟨hgC, ⟨hD8, hL1, hn12⟩, hf0, hf1, hmR, hmT, hwT, hb100, hjb, hw1200, hP8, hmv, hl9, h18, hwo⟩ := MM_bas hMq
      obtain ⟨hv9, hv10, hv11, hv12, hv13, hv16, hv19, hv30⟩ := MM_v hMq
      have hn6 : rsn rq < 6 := (MM_out hMq).2.2.2.2.2.2.2.1.2.2.2.2.2.2.2.1
      have htp := (MM_out hMq).2.2.2.2.2.2.2.2
      refine w_aload_n (nx := 1) C 0 dX9_clears_0 rfl rfl rfl ?_
      refine w_getM (nx := 4) C (.int (vv 9)) 0 9 dX9_clears_1 rfl wl_X9_114 rfl (by decide) rfl (mg_9 _ _) ?_
      refine w_top (nI (rsn rq)) hv9 ?_
      refine n_if_ne (tg := 25) (nx := 7) C dX9_clears_4 rfl rfl (by omega) (fun h_2 => ?_) (fun h_2 => ?_)
      · have hbad : ¬ rsn rq = 0 := by omega
        exact w_vret C E dX9_clears_25 rfl (Nat.le_refl _) (Nat.le_refl _) ⟨fq, rq, _, _, _, _, _, _, _, _, _, _, _, _, _, _, _, _, _, _, rfl, rfl, (hMq), ((fin_bad hbad).symm.trans hfq), (fun z => absurd z hbad)⟩
      · have hr : rsn rq = 0 := by omega
        refine w_aload_n (nx := 8) C 0 dX9_clears_7 rfl rfl rfl ?_
        refine w_getM (nx := 11) C (.int (vv 20)) 0 20 dX9_clears_8 rfl wl_X9_143 rfl (by decide) rfl (mg_20 _ _) ?_
        refine w_aload_n (nx := 12) C 0 dX9_clears_11 rfl rfl rfl ?_
        refine w_getM (nx := 15) C (.int (vv 19)) 0 19 dX9_clears_12 rfl wl_X9_180 rfl (by decide) rfl (mg_19 _ _) ?_
        refine w_top (nI low) hv19 ?_
        refine w_icmp_lt (tg := 25) (nx := 18) C dX9_clears_15 rfl rfl (fun h_3 => ?_) (fun h_3 => ?_)
        · have hfe : fq = [] := by
            cases fq with
            | nil => rfl
            | cons F9 q9 =>
              have e9 : vv 20 = nI (low + q9.length) := htp
              have hl8 := (hMq.2.2.2.2.2.2.2.2.2.2.2.1).1
              have hl7 := (hMq.2.2.2.2.2.2.2.2.2.2.2.1).2.2.2.1.2.2.2.2.2.2.2.2.1
              rw [e9] at h_3
              exact absurd h_3 (nI_nlt (by omega) (by omega))
          exact w_vret C E dX9_clears_25 rfl (Nat.le_refl _) (Nat.le_refl _) ⟨fq, rq, _, _, _, _, _, _, _, _, _, _, _, _, _, _, _, _, _, _, rfl, rfl, (hMq), (by rw [hfe] at hfq; exact hfq), (fun _ => hfe)⟩
        · rcases fq with _ | ⟨⟨kd, t, ky, nm, w, st, nx, ch, f⟩, fq⟩
          · exact absurd htp h_3
          refine w_aload_n (nx := 19) C 0 dX9_clears_18 rfl rfl rfl ?_
          refine w_callV (nx := 22) (wr := []) (rest := []) C mi_X9_goesOn (c_X9_goesOn _ _ a vv k1 k17 k21 k22 k23 k24 k25 k26 k27 k28 k29 k31 k32 k33 k34 k35 k36 g wo v0 f0 low fq rq kd t ky nm w st nx ch f ch.length (hMq) (by first | assumption | omega) (rfl)) 0 dX9_clears_19 rfl wl_X9_183 rfl rfl rfl (pm_sel [0, 1, 2, 3, 4, 5, 6, 7, 8, 9, 10, 11, 12, 13, 14, 15, 16, 17] 18 (by decide +kernel) rfl rfl) rfl rfl (Nat.le_of_ble_eq_true rfl) (Nat.le_of_ble_eq_true rfl) (Nat.le_of_ble_eq_true rfl) (Nat.zero_le _) (Nat.zero_le _) (fun v9 w9 R_4 => ?_)
          obtain ⟨fs9, r9, v9, j1, j17, j21, j22, j23, j24, j25, j26, j27, j28, j29, j31, j32, j33, j34, j35, j36, rfl, rfl, hM9, hf9, hm9⟩ := R_4
          show WW κ 0 0 [(a 0, mO a v9), (a 1, aI (kG κ) 800 j1), (a 17, aI (kG κ) 12 j17), (a 21, aI (kG κ) 12 j21), (a 22, aI (kG κ) 12 j22), (a 23, aI (kG κ) 12 j23), (a 24, aI (kG κ) 12 j24), (a 25, aI (kG κ) 12 j25), (a 26, aI (kG κ) 12 j26), (a 27, aI (kG κ) 12 j27), (a 28, aI (kG κ) 12 j28), (a 29, aZ (kG κ) 4 j29), (a 31, aI (kG κ) 1300 j31), (a 32, aI (kG κ) 1300 j32), (a 33, aI (kG κ) 1300 j33), (a 34, aI (kG κ) 1300 j34), (a 35, aI (kG κ) 13000 j35), (a 36, aI (kG κ) 606 j36)] 22 [(0, .ref (a 0))] []
          refine w_goto (nx := 0) C dX9_clears_22 rfl ?_
          exact ih9_0 fs9 r9 v9 j1 j17 j21 j22 j23 j24 j25 j26 j27 j28 j29 j31 j32 j33 j34 j35 j36 (hM9) (hf9.trans hfq) (Nat.lt_of_lt_of_le hm9 (Nat.le_of_lt_succ hm9_0))
  exact LP_1 _ fs r v f1 f17 f21 f22 f23 f24 f25 f26 f27 f28 f29 f31 f32 f33 f34 f35 f36 (hM) (rfl) (Nat.lt_succ_self _)
