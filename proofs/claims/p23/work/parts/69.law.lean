theorem law_end {κ : KX} (C : CT κ cL_law RL 20 room_1) {b : Nat} {c n : Nat} {ws : va_W} {lo : List (Nat × Value)} (ha : ka κ = #[Value.ref b]) (hQ : kQ κ = lw_Z (kb κ) #[Value.ref b] (ks κ)) (hA : kA κ = fun q : Nat => (ks κ).heap.size ≤ q) (hRm : kR κ = room_1) (hr : (kh κ).sig.returnType = ret) (hlk : (kh κ).locks = false) (hc : c ≤ 600000) (hn : n ≤ 7302250) : WW κ c n ws 526 lo [.int (nI 1)] := by
  intro H locs ls hP hD hS hl
  rw [hQ, ha, hRm]
  refine W.widen hc hn (va_forget (fun q hq => ?_) (lw_ret C.1 C.2.1 hr hlk dL_law_526))
  have h9 := hS.2.2 q hq
  rw [hA] at h9
  exact h9
set_option maxHeartbeats 4000000 in
set_option maxRecDepth 100000 in
theorem seg481 {κ : KX} (C : CT κ cL_law RL 20 room_1) {b h : Nat} {X : SX} {w1 : va_W} {sv : Int64} (ha : ka κ = #[Value.ref b]) (hQ : kQ κ = lw_Z (kb κ) #[Value.ref b] (ks κ)) (hA : kA κ = fun q : Nat => (ks κ).heap.size ≤ q) (hRm : kR κ = room_1) (hr : (kh κ).sig.returnType = ret) (hlk : (kh κ).locks = false) (hI : INV X sv) (hR : RX (kG κ) h w1 X) {c n : Nat} (hc : c + 10 ≤ 600000) (hn : n + 813 ≤ 7302250) : WW κ c n ((w1)) 481 [(2, .long sv), (1, .ref h), (0, .ref b)] [] := by
  obtain ⟨hwO, haX, ⟨σ, hl0, ha0, hd0⟩, hl1⟩ := id hI
  have hYs : xS (o_restore X (nI 0)).2 = σ := by rw [u_rest0 hl0]
  have hzs := (hwO.2.2.1 0 (by decide) σ hl0).2.2.1
  have hz0 := (hzs 0 (by decide)).1
  have hz1 := (hzs 1 (by decide)).1
  have hz2 := (hzs 2 (by decide)).1
  have hz3 := (hzs 3 (by decide)).1
  have hall : allT (sT σ) = zT (sT (xS (o_restore X (nI 0)).2)) 0 + zT (sT (xS (o_restore X (nI 0)).2)) 1 + zT (sT (xS (o_restore X (nI 0)).2)) 2 + zT (sT (xS (o_restore X (nI 0)).2)) 3 := by
    rw [hYs]
    show 0 + zT (sT σ) 0 + zT (sT σ) 1 + zT (sT σ) 2 + zT (sT σ) 3 = _
    omega
  have hall2 : allT (sT σ) ≤ 48 := by
    show 0 + zT (sT σ) 0 + zT (sT σ) 1 + zT (sT σ) 2 + zT (sT σ) 3 ≤ 48
    omega
  have hdd : dgS (xS (o_restore X (nI 0)).2) = sv := by rw [hYs]; exact hd0.symm
  refine w_aload_n (nx := 482) C 1 dL_law_481 rfl rfl rfl ?_
  refine w_iconst (nx := 483) C (nI 0) dL_law_482 rfl (by decide) ?_
  obtain ⟨_, hv_2⟩ := RX_recv (G := kG κ) (h := h) (w := w1) (X := X) (by assumption)
  refine w_callV (nx := 486) (wr := []) (rest := []) (ci := 8) C mi_X8_restore (k_rest0 _ _ h w1 X σ (by first | assumption | omega) (by first | assumption | omega)) 0 dL_law_483 rfl wl_L_48 rfl rfl hv_2 (pm_blkc [w1] [0] [] 1 (by decide +kernel) rfl rfl rfl rfl) rfl rfl (Nat.le_of_ble_eq_true rfl) (Nat.le_of_ble_eq_true rfl) (Nat.le_of_ble_eq_true rfl) (rc_c (by omega)) (rc_s (by omega)) (fun v9 w2_3 R_1 => ?_)
  obtain ⟨w9, rfl, rfl, hR2_4⟩ := R_1
  refine ww_perm (pm_blkj [w2_3] [] [0] 1 (by decide +kernel) rfl rfl rfl rfl) ?_
  show WW κ (c + 10) (n + 813) ((w2_3)) 486 [(2, .long sv), (1, .ref h), (0, .ref b)] [.int (nI (allT (sT σ)))]
  refine w_aload_n (nx := 487) C 1 dL_law_486 rfl rfl rfl ?_
  refine w_iconst (nx := 488) C (nI 0) dL_law_487 rfl (by decide) ?_
  obtain ⟨_, hv_6⟩ := RX_recv (G := kG κ) (h := h) (w := w2_3) (X := ((o_restore X (nI 0)).2)) (by assumption)
  refine w_callV (nx := 491) (wr := []) (rest := [.int (nI (allT (sT σ)))]) (ci := 8) C mi_X8_count (k_cntT _ _ h w2_3 ((o_restore X (nI 0)).2) 0 (by first | assumption | omega) (by first | assumption | omega)) 0 dL_law_488 rfl wl_L_12 rfl rfl hv_6 (pm_blkc [w2_3] [0] [] 1 (by decide +kernel) rfl rfl rfl rfl) rfl rfl (Nat.le_of_ble_eq_true rfl) (Nat.le_of_ble_eq_true rfl) (Nat.le_of_ble_eq_true rfl) (rc_c (by omega)) (rc_s (by omega)) (fun v9 w2_7 R_5 => ?_)
  obtain ⟨w9, rfl, rfl, hR2_8⟩ := R_5
  refine ww_perm (pm_blkj [w2_7] [] [0] 1 (by decide +kernel) rfl rfl rfl rfl) ?_
  show WW κ (c + 10) (n + 813) ((w2_7)) 491 [(2, .long sv), (1, .ref h), (0, .ref b)] [.int (nI (zT (sT (xS ((o_restore X (nI 0)).2))) 0)), .int (nI (allT (sT σ)))]
  refine w_aload_n (nx := 492) C 1 dL_law_491 rfl rfl rfl ?_
  refine w_iconst (nx := 493) C (nI 1) dL_law_492 rfl (by decide) ?_
  obtain ⟨_, hv_10⟩ := RX_recv (G := kG κ) (h := h) (w := w2_7) (X := ((o_restore X (nI 0)).2)) (by assumption)
  refine w_callV (nx := 496) (wr := []) (rest := [.int (nI (zT (sT (xS ((o_restore X (nI 0)).2))) 0)), .int (nI (allT (sT σ)))]) (ci := 8) C mi_X8_count (k_cntT _ _ h w2_7 ((o_restore X (nI 0)).2) 1 (by first | assumption | omega) (by first | assumption | omega)) 0 dL_law_493 rfl wl_L_12 rfl rfl hv_10 (pm_blkc [w2_7] [0] [] 1 (by decide +kernel) rfl rfl rfl rfl) rfl rfl (Nat.le_of_ble_eq_true rfl) (Nat.le_of_ble_eq_true rfl) (Nat.le_of_ble_eq_true rfl) (rc_c (by omega)) (rc_s (by omega)) (fun v9 w2_11 R_9 => ?_)
  obtain ⟨w9, rfl, rfl, hR2_12⟩ := R_9
  refine ww_perm (pm_blkj [w2_11] [] [0] 1 (by decide +kernel) rfl rfl rfl rfl) ?_
  show WW κ (c + 10) (n + 813) ((w2_11)) 496 [(2, .long sv), (1, .ref h), (0, .ref b)] [.int (nI (zT (sT (xS ((o_restore X (nI 0)).2))) 1)), .int (nI (zT (sT (xS ((o_restore X (nI 0)).2))) 0)), .int (nI (allT (sT σ)))]
  refine w_iadd (nx := 497) C (nI (zT (sT (xS ((o_restore X (nI 0)).2))) 0 + zT (sT (xS ((o_restore X (nI 0)).2))) 1)) dL_law_496 rfl (nI_add _ _) ?_
  refine w_aload_n (nx := 498) C 1 dL_law_497 rfl rfl rfl ?_
  refine w_iconst (nx := 499) C (nI 2) dL_law_498 rfl (by decide) ?_
  obtain ⟨_, hv_14⟩ := RX_recv (G := kG κ) (h := h) (w := w2_11) (X := ((o_restore X (nI 0)).2)) (by assumption)
  refine w_callV (nx := 502) (wr := []) (rest := [.int (nI (zT (sT (xS ((o_restore X (nI 0)).2))) 0 + zT (sT (xS ((o_restore X (nI 0)).2))) 1)), .int (nI (allT (sT σ)))]) (ci := 8) C mi_X8_count (k_cntT _ _ h w2_11 ((o_restore X (nI 0)).2) 2 (by first | assumption | omega) (by first | assumption | omega)) 0 dL_law_499 rfl wl_L_12 rfl rfl hv_14 (pm_blkc [w2_11] [0] [] 1 (by decide +kernel) rfl rfl rfl rfl) rfl rfl (Nat.le_of_ble_eq_true rfl) (Nat.le_of_ble_eq_true rfl) (Nat.le_of_ble_eq_true rfl) (rc_c (by omega)) (rc_s (by omega)) (fun v9 w2_15 R_13 => ?_)
  obtain ⟨w9, rfl, rfl, hR2_16⟩ := R_13
  refine ww_perm (pm_blkj [w2_15] [] [0] 1 (by decide +kernel) rfl rfl rfl rfl) ?_
  show WW κ (c + 10) (n + 813) ((w2_15)) 502 [(2, .long sv), (1, .ref h), (0, .ref b)] [.int (nI (zT (sT (xS ((o_restore X (nI 0)).2))) 2)), .int (nI (zT (sT (xS ((o_restore X (nI 0)).2))) 0 + zT (sT (xS ((o_restore X (nI 0)).2))) 1)), .int (nI (allT (sT σ)))]
  refine w_iadd (nx := 503) C (nI (zT (sT (xS ((o_restore X (nI 0)).2))) 0 + zT (sT (xS ((o_restore X (nI 0)).2))) 1 + zT (sT (xS ((o_restore X (nI 0)).2))) 2)) dL_law_502 rfl (nI_add _ _) ?_
  refine w_aload_n (nx := 504) C 1 dL_law_503 rfl rfl rfl ?_
  refine w_iconst (nx := 505) C (nI 3) dL_law_504 rfl (by decide) ?_
  obtain ⟨_, hv_18⟩ := RX_recv (G := kG κ) (h := h) (w := w2_15) (X := ((o_restore X (nI 0)).2)) (by assumption)
  refine w_callV (nx := 508) (wr := []) (rest := [.int (nI (zT (sT (xS ((o_restore X (nI 0)).2))) 0 + zT (sT (xS ((o_restore X (nI 0)).2))) 1 + zT (sT (xS ((o_restore X (nI 0)).2))) 2)), .int (nI (allT (sT σ)))]) (ci := 8) C mi_X8_count (k_cntT _ _ h w2_15 ((o_restore X (nI 0)).2) 3 (by first | assumption | omega) (by first | assumption | omega)) 0 dL_law_505 rfl wl_L_12 rfl rfl hv_18 (pm_blkc [w2_15] [0] [] 1 (by decide +kernel) rfl rfl rfl rfl) rfl rfl (Nat.le_of_ble_eq_true rfl) (Nat.le_of_ble_eq_true rfl) (Nat.le_of_ble_eq_true rfl) (rc_c (by omega)) (rc_s (by omega)) (fun v9 w2_19 R_17 => ?_)
  obtain ⟨w9, rfl, rfl, hR2_20⟩ := R_17
  refine ww_perm (pm_blkj [w2_19] [] [0] 1 (by decide +kernel) rfl rfl rfl rfl) ?_
  show WW κ (c + 10) (n + 813) ((w2_19)) 508 [(2, .long sv), (1, .ref h), (0, .ref b)] [.int (nI (zT (sT (xS ((o_restore X (nI 0)).2))) 3)), .int (nI (zT (sT (xS ((o_restore X (nI 0)).2))) 0 + zT (sT (xS ((o_restore X (nI 0)).2))) 1 + zT (sT (xS ((o_restore X (nI 0)).2))) 2)), .int (nI (allT (sT σ)))]
  refine w_iadd (nx := 509) C (nI (zT (sT (xS ((o_restore X (nI 0)).2))) 0 + zT (sT (xS ((o_restore X (nI 0)).2))) 1 + zT (sT (xS ((o_restore X (nI 0)).2))) 2 + zT (sT (xS ((o_restore X (nI 0)).2))) 3)) dL_law_508 rfl (nI_add _ _) ?_
  refine n_icmp_ne (tg := 525) (nx := 512) C dL_law_509 rfl rfl (by omega) (by omega) (fun h_21 => ?_) (fun h_21 => ?_)
  · exact absurd hall h_21
  · refine w_aload_n (nx := 513) C 1 dL_law_512 rfl rfl rfl ?_
    refine w_callS (nx := 516) (wr := []) (rest := []) C ms_L_digest (c_L_digest _ _ h w2_19 ((o_restore X (nI 0)).2) (by first | assumption | omega)) dL_law_513 rfl wl_L_65 rfl (pm_blkc [w2_19] [0] [] 1 (by decide +kernel) rfl rfl rfl rfl) rfl rfl (Nat.le_of_ble_eq_true rfl) (Nat.le_of_ble_eq_true rfl) (Nat.le_of_ble_eq_true rfl) (rc_c (by omega)) (rc_s (by omega)) (fun v9 w2_23 R_22 => ?_)
    obtain ⟨w9, rfl, rfl, hR2_24⟩ := R_22
    refine ww_perm (pm_blkj [w2_23] [] [0] 1 (by decide +kernel) rfl rfl rfl rfl) ?_
    show WW κ (c + 10) (n + 813) ((w2_23)) 516 [(2, .long sv), (1, .ref h), (0, .ref b)] [.long (dgS (xS ((o_restore X (nI 0)).2)))]
    refine w_lload_n (nx := 517) C 0 dL_law_516 rfl rfl rfl ?_
    refine w_lcmp (nx := 518) C (lg_cmp (dgS (xS ((o_restore X (nI 0)).2))) sv) dL_law_517 rfl rfl ?_
    refine w_if_ne (tg := 525) (nx := 521) C dL_law_518 rfl rfl (fun q9 => absurd q9 (fun z => z ((lg_cmp_eq _ _).mpr hdd))) (fun _ => ?_)
    refine w_iconst (nx := 522) C (nI 1) dL_law_521 rfl (by decide) ?_
    refine w_goto (nx := 526) C dL_law_522 rfl ?_
    exact law_end C ha hQ hA hRm hr hlk (by omega) (by omega)
set_option maxHeartbeats 4000000 in
theorem law_loop {κ : KX} (C : CT κ cL_law RL 20 room_1) {b L : Nat} {xs : Nat → Int32} (hX9 : va_X b L xs (ks κ) (ks κ).heap) (hbl : b < (ks κ).heap.size) (hbA : ¬ kA κ b) (hL : L ≤ 260) {h : Nat} (ha : ka κ = #[Value.ref b]) (hQ : kQ κ = lw_Z (kb κ) #[Value.ref b] (ks κ)) (hA : kA κ = fun q : Nat => (ks κ).heap.size ≤ q) (hRm : kR κ = room_1) (hr : (kh κ).sig.returnType = ret) (hlk : (kh κ).locks = false) : ∀ (N t : Nat) (X : SX) (w1 : va_W) (sv : Int64), t + N = 32 → INV X sv → RX (kG κ) h w1 X → WW κ (100 + 30 * t) (40000 + 2439 * t) ((w1)) 45 [(4, .int (nI t)), (2, .long sv), (1, .ref h), (0, .ref b)] []
  | 0, t, X, w1, sv, ht, hI, hR => by
    refine w_iload (nx := 47) C 0 dL_law_45 rfl rfl ?_
    refine w_bipush (nx := 49) C (nI 32) dL_law_47 rfl (by decide) ?_
    refine n_icmp_ge (tg := 481) (nx := 52) C dL_law_49 rfl rfl (by omega) (by decide) (fun h4 => ?_) (fun h4 => absurd (by omega) h4)
    refine ww_lo [1, 2, 3] (lo' := [(2, .long sv), (1, .ref h), (0, .ref b)]) rfl ?_
    exact seg481 C ha hQ hA hRm hr hlk hI hR (by omega) (by omega)
  | N + 1, t, X, w1, sv, ht, hI, hR => by
    refine w_iload (nx := 47) C 0 dL_law_45 rfl rfl ?_
    refine w_bipush (nx := 49) C (nI 32) dL_law_47 rfl (by decide) ?_
    refine n_icmp_ge (tg := 481) (nx := 52) C dL_law_49 rfl rfl (by omega) (by decide) (fun h4 => absurd h4 (by omega)) (fun h4 => ?_)
    exact seg52 C hX9 hbl hbA hL (c9 := 100 + 30 * (t + 1)) (n9 := 40000 + 2439 * (t + 1)) (by omega) hI hR (by omega) (by omega) (by omega) (by omega) (fun X2 w2 s2 hI2 hR2 => law_loop C hX9 hbl hbA hL ha hQ hA hRm hr hlk N (t + 1) X2 w2 s2 (by omega) hI2 hR2)
set_option maxHeartbeats 4000000 in
set_option maxRecDepth 100000 in
theorem law_run {κ : KX} (C : CT κ cL_law RL 20 room_1) {b L : Nat} {xs : Nat → Int32} (hX9 : va_X b L xs (ks κ) (ks κ).heap) (hbl : b < (ks κ).heap.size) (hbA : ¬ kA κ b) (hL : L ≤ 260) (ha : ka κ = #[Value.ref b]) (hQ : kQ κ = lw_Z (kb κ) #[Value.ref b] (ks κ)) (hA : kA κ = fun q : Nat => (ks κ).heap.size ≤ q) (hRm : kR κ = room_1) (hr : (kh κ).sig.returnType = ret) (hlk : (kh κ).locks = false) : WW κ 0 0 [] 0 [(0, .ref b)] [] := by
  refine w_new (nx := 3) C fc8 [.null, .null, .null, .null, .null] dL_law_0 rfl wl_L_13 wn_X8 wi_X8 df_X8 (Nat.le_of_ble_eq_true rfl) (Nat.le_of_ble_eq_true rfl) (fun q_1 => ?_)
  show WW κ 1 5 [(q_1, .inr (8, [.null, .null, .null, .null, .null]))] 3 [(0, .ref b)] [.ref q_1]
  refine w_dup (nx := 4) C dL_law_3 rfl rfl ?_
  refine w_callI (nx := 7) (wr := []) (rest := [.ref q_1]) C mk_X8_init (c_X8_initR _ _ q_1) dL_law_4 rfl wl_L_57 (pm_sel [0] 1 (by decide +kernel) rfl rfl) rfl rfl (Nat.le_of_ble_eq_true rfl) (Nat.le_of_ble_eq_true rfl) (Nat.le_of_ble_eq_true rfl) (Nat.le_of_ble_eq_true rfl) (Nat.le_of_ble_eq_true rfl) (fun v9 w2_3 R_2 => ?_)
  obtain ⟨w9, rfl, rfl, hR_4⟩ := R_2
  refine ww_perm (pm_blkj [w2_3] [] [0] 1 (by decide +kernel) rfl rfl rfl rfl) ?_
  show WW κ 33 2689 ((w2_3)) 7 [(0, .ref b)] [.ref q_1]
  refine w_astore_n (nx := 8) (lo2 := [(1, .ref q_1), (0, .ref b)]) C dL_law_7 rfl rfl (by decide) rfl ?_
  refine w_aload_n (nx := 9) C 0 dL_law_8 rfl rfl rfl ?_
  obtain ⟨_, hv_6⟩ := RX_recv (G := kG κ) (h := q_1) (w := w2_3) (X := noX) (by assumption)
  refine w_callV (nx := 12) (wr := []) (rest := []) (ci := 8) C mi_X8_undo (k_undo0 _ _ q_1 w2_3 noX (by first | assumption | omega) (rfl)) 0 dL_law_9 rfl wl_L_58 rfl rfl hv_6 (pm_blkc [w2_3] [0] [] 1 (by decide +kernel) rfl rfl rfl rfl) rfl rfl (Nat.le_of_ble_eq_true rfl) (Nat.le_of_ble_eq_true rfl) (Nat.le_of_ble_eq_true rfl) (Nat.le_of_ble_eq_true rfl) (Nat.le_of_ble_eq_true rfl) (fun v9 w2_7 R_5 => ?_)
  obtain ⟨w9, rfl, rfl, hR2_8⟩ := R_5
  refine ww_perm (pm_blkj [w2_7] [] [0] 1 (by decide +kernel) rfl rfl rfl rfl) ?_
  show WW κ 33 2689 ((w2_7)) 12 [(1, .ref q_1), (0, .ref b)] [.int (-5)]
  refine w_bipush (nx := 14) C (-5) dL_law_12 rfl (by decide) ?_
  refine w_icmp_ne (tg := 35) (nx := 17) C dL_law_14 rfl rfl (fun q9 => absurd (by decide) q9) (fun _ => ?_)
  refine w_aload_n (nx := 18) C 0 dL_law_17 rfl rfl rfl ?_
  refine w_iconst (nx := 19) C (nI 1) dL_law_18 rfl (by decide) ?_
  obtain ⟨_, hv_11⟩ := RX_recv (G := kG κ) (h := q_1) (w := w2_7) (X := noX) (by assumption)
  refine w_callV (nx := 22) (wr := []) (rest := []) (ci := 8) C mi_X8_restore (k_rest1 _ _ q_1 w2_7 noX (by first | assumption | omega) (rfl)) 0 dL_law_19 rfl wl_L_48 rfl rfl hv_11 (pm_blkc [w2_7] [0] [] 1 (by decide +kernel) rfl rfl rfl rfl) rfl rfl (Nat.le_of_ble_eq_true rfl) (Nat.le_of_ble_eq_true rfl) (Nat.le_of_ble_eq_true rfl) (Nat.le_of_ble_eq_true rfl) (Nat.le_of_ble_eq_true rfl) (fun v9 w2_12 R_10 => ?_)
  obtain ⟨w9, rfl, rfl, hR2_13⟩ := R_10
  refine ww_perm (pm_blkj [w2_12] [] [0] 1 (by decide +kernel) rfl rfl rfl rfl) ?_
  show WW κ 43 3502 ((w2_12)) 22 [(1, .ref q_1), (0, .ref b)] [.int (-5)]
  refine w_bipush (nx := 24) C (-5) dL_law_22 rfl (by decide) ?_
  refine w_icmp_ne (tg := 35) (nx := 27) C dL_law_24 rfl rfl (fun q9 => absurd (by decide) q9) (fun _ => ?_)
  refine w_aload_n (nx := 28) C 0 dL_law_27 rfl rfl rfl ?_
  refine w_iconst (nx := 29) C (nI 0) dL_law_28 rfl (by decide) ?_
  obtain ⟨_, hv_16⟩ := RX_recv (G := kG κ) (h := q_1) (w := w2_12) (X := noX) (by assumption)
  refine w_callV (nx := 32) (wr := []) (rest := []) (ci := 8) C mi_X8_save (k_save0 _ _ q_1 w2_12 noX (by first | assumption | omega) (rfl)) 0 dL_law_29 rfl wl_L_62 rfl rfl hv_16 (pm_blkc [w2_12] [0] [] 1 (by decide +kernel) rfl rfl rfl rfl) rfl rfl (Nat.le_of_ble_eq_true rfl) (Nat.le_of_ble_eq_true rfl) (Nat.le_of_ble_eq_true rfl) (Nat.le_of_ble_eq_true rfl) (Nat.le_of_ble_eq_true rfl) (fun v9 w2_17 R_15 => ?_)
  obtain ⟨w9, rfl, rfl, hR2_18⟩ := R_15
  refine ww_perm (pm_blkj [w2_17] [] [0] 1 (by decide +kernel) rfl rfl rfl rfl) ?_
  show WW κ 53 4315 ((w2_17)) 32 [(1, .ref q_1), (0, .ref b)] [.int (nI 0)]
  refine w_if_eq (tg := 37) (nx := 35) C dL_law_32 rfl rfl (fun _ => ?_) (fun q9 => absurd (by decide) q9)
  refine w_aload_n (nx := 38) C 0 dL_law_37 rfl rfl rfl ?_
  refine w_callS (nx := 41) (wr := []) (rest := []) C ms_L_digest (c_L_digest _ _ q_1 w2_17 ((o_save noX (nI 0)).2) (by first | assumption | omega)) dL_law_38 rfl wl_L_65 rfl (pm_blkc [w2_17] [0] [] 1 (by decide +kernel) rfl rfl rfl rfl) rfl rfl (Nat.le_of_ble_eq_true rfl) (Nat.le_of_ble_eq_true rfl) (Nat.le_of_ble_eq_true rfl) (Nat.le_of_ble_eq_true rfl) (Nat.le_of_ble_eq_true rfl) (fun v9 w2_21 R_20 => ?_)
  obtain ⟨w9, rfl, rfl, hR2_22⟩ := R_20
  refine ww_perm (pm_blkj [w2_21] [] [0] 1 (by decide +kernel) rfl rfl rfl rfl) ?_
  show WW κ 53 4315 ((w2_21)) 41 [(1, .ref q_1), (0, .ref b)] [.long (dgS (xS ((o_save noX (nI 0)).2)))]
  refine w_lstore_n (nx := 42) (lo2 := [(2, .long (dgS (xS ((o_save noX (nI 0)).2)))), (1, .ref q_1), (0, .ref b)]) C dL_law_41 rfl rfl (by decide) rfl ?_
  refine w_iconst (nx := 43) C (nI 0) dL_law_42 rfl (by decide) ?_
  refine w_istore (nx := 45) (lo2 := [(4, .int (nI 0)), (2, .long (dgS (xS ((o_save noX (nI 0)).2)))), (1, .ref q_1), (0, .ref b)]) C dL_law_43 rfl (by decide) rfl ?_
  refine ww_wide (by decide : _ ≤ 100 + 30 * 0) (by decide : _ ≤ 40000 + 2439 * 0) ?_
  exact law_loop C hX9 hbl hbA hL ha hQ hA hRm hr hlk 32 0 (o_save noX (nI 0)).2 w2_21 _ rfl (INV_save wfO_no asT_no rfl) (by assumption)
set_option maxHeartbeats 4000000 in
theorem kn_start {s : State} {args : Array Value} (hts0 : ∀ w ∈ lw_tbl, w.before args s = true) : ∃ G : GG, KN G s := by
  have hts := tb_all hts0
  obtain ⟨c0, i0, q0⟩ := u_known (C := RX0) (T := TX0) (N := 11) (n := 11) hts wf_X0 (hts _ wn_X0)
  obtain ⟨c1, i1, q1⟩ := u_known (C := RX1) (T := TX1) (N := 5) (n := 5) hts wf_X1 (hts _ wn_X1)
  obtain ⟨c2, i2, q2⟩ := u_known (C := RX2) (T := TX2) (N := 3) (n := 3) hts wf_X2 (hts _ wn_X2)
  obtain ⟨c3, i3, q3⟩ := u_known (C := RX3) (T := TX3) (N := 4) (n := 4) hts wf_X3 (hts _ wn_X3)
  obtain ⟨c4, i4, q4⟩ := u_known (C := RX4) (T := TX4) (N := 4) (n := 4) hts wf_X4 (hts _ wn_X4)
  obtain ⟨c5, i5, q5⟩ := u_known (C := RX5) (T := TX5) (N := 5) (n := 5) hts wf_X5 (hts _ wn_X5)
  obtain ⟨c6, i6, q6⟩ := u_known (C := RX6) (T := TX6) (N := 3) (n := 3) hts wf_X6 (hts _ wn_X6)
  obtain ⟨c7, i7, q7⟩ := u_known (C := RX7) (T := TX7) (N := 1) (n := 1) hts wf_X7 (hts _ wn_X7)
  obtain ⟨c8, i8, q8⟩ := u_known (C := RX8) (T := TX8) (N := 5) (n := 5) hts wf_X8 (hts _ wn_X8)
  obtain ⟨dC, dI, hKc⟩ : ∃ (dC : Nat → ClassId) (dI : Nat → Nat → Nat), ∀ (k : Nat) (q : vw_C), vwCl[k]? = some q → u_Kn s q.1 q.2.1 q.2.2 (dC k) (dI k) := by
    refine ⟨fun k => [c0, c1, c2, c3, c4, c5, c6, c7, c8].getD k c0, fun k => [i0, i1, i2, i3, i4, i5, i6, i7, i8].getD k i0, ?_⟩
    intro k q hq
    match k, hq with
    | 0, hq => cases hq; exact q0
    | 1, hq => cases hq; exact q1
    | 2, hq => cases hq; exact q2
    | 3, hq => cases hq; exact q3
    | 4, hq => cases hq; exact q4
    | 5, hq => cases hq; exact q5
    | 6, hq => cases hq; exact q6
    | 7, hq => cases hq; exact q7
    | 8, hq => cases hq; exact q8
    | k + 9, hq => simp [vwCl] at hq
  obtain ⟨a1, k1, p1, f1, g1, e1⟩ := Cond.arrayClass_spec (hts _ wa_int)
  obtain ⟨a2, k2, p2, f2, g2, e2⟩ := Cond.arrayClass_spec (hts _ wa_char)
  obtain ⟨p4, a4, k4, f4, x4, g4, e4, y4⟩ := Cond.arrayOver_spec (hts0 _ wo_X5)
  refine ⟨((dC, dI), a1, a2, a2, a4), ⟨hKc, fun k q hq => ?_⟩, fun w hw => ?_, va_AO.of (hts0 _ wo_X5)⟩
  · match k, hq with
    | 0, hq => cases hq; exact ⟨fun N z => ⟨(fun k h => by cases h), k1, g1, p1, e1⟩, f1⟩
    | 1, hq => cases hq; exact ⟨fun N z => ⟨(fun k h => by cases h), k2, g2, p2, e2⟩, f2⟩
    | 2, hq => cases hq; exact ⟨fun N z => ⟨(fun k h => by cases h), k2, g2, p2, e2⟩, f2⟩
    | 3, hq => cases hq; exact ⟨fun N z => ⟨(fun k h => by cases h), k4, g4, p4, e4⟩, k4, p4, g4, e4, f4, y4⟩
    | k + 4, hq => simp [gT] at hq
  · refine va_Nw.of ?_ (hts0 w (nest_in w hw))
    simp only [nestW, List.mem_cons, List.not_mem_nil, or_false] at hw
    rcases hw with rfl | rfl | rfl <;> rfl
