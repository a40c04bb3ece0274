def tbB (x : Int32) : Int32 := if (x >>> (nI 7 &&& 31)) &&& nI 3 = 0 then nI (lwN (x >>> (nI 9 &&& 31)) 1001) else nI (lwN (x >>> (nI 9 &&& 31)) 20)
def dbB (x : Int32) : Int32 := if (x >>> (nI 4 &&& 31)) &&& nI 3 = 0 then nI (lwN (x >>> (nI 6 &&& 31)) 101) else nI 0
def sbB (x : Int32) : Nat := if (x >>> (nI 20 &&& 31)) &&& nI 7 = 0 then 101 else 13
theorem sbB_lt (x : Int32) : 0 < sbB x ∧ sbB x < 2 ^ 31 := by unfold sbB; split <;> decide
set_option maxHeartbeats 4000000 in
set_option maxRecDepth 100000 in
theorem act_0 (l : Launch) (G : GG) (h : Nat) (w : va_W) (X : SX) (v : Int32) (x : Int32) (hRX : RX G h w X) (hv : v &&& nI 15 = nI 0) : MT l G yL_act cL_act 4 (some .int) 62 10 813 [.ref h, .int v, .int x] ((w)) (fun v9 ws9 => ∃ (w2 : va_W), v9 = some (.int ((o_set X (x &&& nI 1) (nI (lwN (x >>> (nI 1 &&& 31)) 10))).1)) ∧ ws9 = ((w2)) ∧ RX G h w2 (o_set X (x &&& nI 1) (nI (lwN (x >>> (nI 1 &&& 31)) 10))).2) := by
  refine MT.of RL [(0, .ref h), (1, .int v), (2, .int x)] (by decide +kernel) rfl rfl (Nat.le_of_ble_eq_true rfl) (fun κ C E hl9 hG9 hnm9 => ?_)
  subst hl9; subst hG9
  have hsb9 := sbB_lt x
  refine w_iload_n (nx := 1) C 1 dL_act_0 rfl rfl rfl ?_
  refine w_iconst (nx := 2) C (nI 4) dL_act_1 rfl (by decide) ?_
  refine w_ishr (nx := 3) C (v >>> ((nI 4) &&& 31)) dL_act_2 rfl rfl ?_
  refine w_bipush (nx := 5) C (nI 13) dL_act_3 rfl (by decide) ?_
  refine w_callS (nx := 8) (wr := ((w))) (rest := []) C ms_L_low (c_L_low _ _ (v >>> ((nI 4) &&& 31)) 13 (by first | assumption | omega) (by first | assumption | omega)) dL_act_5 rfl wl_L_29 rfl (pm_blkc [w] [] [0] 1 (by decide +kernel) rfl rfl rfl rfl) rfl rfl (Nat.le_of_ble_eq_true rfl) (Nat.le_of_ble_eq_true rfl) (Nat.le_of_ble_eq_true rfl) (Nat.zero_le _) (Nat.zero_le _) (fun v9 w9 R_1 => ?_)
  obtain ⟨rfl, rfl⟩ := R_1
  show WW κ 0 0 ((w)) 8 [(0, .ref h), (1, .int v), (2, .int x)] [.int (nI (lwN (v >>> ((nI 4) &&& 31)) 13))]
  refine w_istore_n (nx := 9) (lo2 := [(3, .int (nI (lwN (v >>> ((nI 4) &&& 31)) 13))), (0, .ref h), (1, .int v), (2, .int x)]) C dL_act_8 rfl rfl (by decide) rfl ?_
  refine w_iload_n (nx := 10) C 2 dL_act_9 rfl rfl rfl ?_
  refine w_bipush (nx := 12) C (nI 15) dL_act_10 rfl (by decide) ?_
  refine w_iand (nx := 13) C (nI 0) dL_act_12 rfl hv ?_
  refine w_tableIn (nx := 56) C dL_act_13 (by decide) (by decide) rfl rfl ?_
  refine w_aload_n (nx := 57) C 1 dL_act_56 rfl rfl rfl ?_
  refine w_iload_n (nx := 58) C 3 dL_act_57 rfl rfl rfl ?_
  refine w_iconst (nx := 59) C (nI 1) dL_act_58 rfl (by decide) ?_
  refine w_iand (nx := 60) C (x &&& (nI 1)) dL_act_59 rfl rfl ?_
  refine w_iload_n (nx := 61) C 3 dL_act_60 rfl rfl rfl ?_
  refine w_iconst (nx := 62) C (nI 1) dL_act_61 rfl (by decide) ?_
  refine w_ishr (nx := 63) C (x >>> ((nI 1) &&& 31)) dL_act_62 rfl rfl ?_
  refine w_bipush (nx := 65) C (nI 10) dL_act_63 rfl (by decide) ?_
  refine w_callS (nx := 68) (wr := ((w))) (rest := [.int (x &&& (nI 1)), .ref h]) C ms_L_low (c_L_low _ _ (x >>> ((nI 1) &&& 31)) 10 (by first | assumption | omega) (by first | assumption | omega)) dL_act_65 rfl wl_L_29 rfl (pm_blkc [w] [] [0] 1 (by decide +kernel) rfl rfl rfl rfl) rfl rfl (Nat.le_of_ble_eq_true rfl) (Nat.le_of_ble_eq_true rfl) (Nat.le_of_ble_eq_true rfl) (Nat.zero_le _) (Nat.zero_le _) (fun v9 w9 R_2 => ?_)
  obtain ⟨rfl, rfl⟩ := R_2
  show WW κ 0 0 ((w)) 68 [(3, .int (nI (lwN (v >>> ((nI 4) &&& 31)) 13))), (0, .ref h), (1, .int v), (2, .int x)] [.int (nI (lwN (x >>> ((nI 1) &&& 31)) 10)), .int (x &&& (nI 1)), .ref h]
  obtain ⟨_, hv_4⟩ := RX_recv (G := kG κ) (h := h) (w := w) (X := X) (by assumption)
  refine w_callV (nx := 71) (wr := []) (rest := []) (ci := 8) C mi_X8_set (c_X8_set _ _ h w X (x &&& (nI 1)) (nI (lwN (x >>> ((nI 1) &&& 31)) 10)) (by first | assumption | omega)) 0 dL_act_68 rfl wl_L_34 rfl rfl hv_4 (pm_blkc [w] [0] [] 1 (by decide +kernel) rfl rfl rfl rfl) rfl rfl (Nat.le_of_ble_eq_true rfl) (Nat.le_of_ble_eq_true rfl) (Nat.le_of_ble_eq_true rfl) (Nat.le_of_ble_eq_true rfl) (Nat.le_of_ble_eq_true rfl) (fun v9 w2_5 R_3 => ?_)
  obtain ⟨w9, rfl, rfl, hRX2_6⟩ := R_3
  refine ww_perm (pm_blkj [w2_5] [] [0] 1 (by decide +kernel) rfl rfl rfl rfl) ?_
  show WW κ 10 813 ((w2_5)) 71 [(3, .int (nI (lwN (v >>> ((nI 4) &&& 31)) 13))), (0, .ref h), (1, .int v), (2, .int x)] [.int ((o_set X (x &&& (nI 1)) (nI (lwN (x >>> ((nI 1) &&& 31)) 10))).1)]
  exact w_iret (ty := .int) C E dL_act_71 rfl rfl (Nat.le_refl _) (Nat.le_refl _) ⟨_, rfl, rfl, (by first | assumption | rfl | omega)⟩
set_option maxHeartbeats 4000000 in
set_option maxRecDepth 100000 in
theorem act_1 (l : Launch) (G : GG) (h : Nat) (w : va_W) (X : SX) (v : Int32) (x : Int32) (hRX : RX G h w X) (hv : v &&& nI 15 = nI 1) : MT l G yL_act cL_act 4 (some .int) 62 10 813 [.ref h, .int v, .int x] ((w)) (fun v9 ws9 => ∃ (w2 : va_W), v9 = some (.int ((o_trigger X (nI (lwN x 5)) (nI (lwN (x >>> (nI 3 &&& 31)) 3)) (nI (lwN (x >>> (nI 5 &&& 31)) 3)) (tbB x)).1)) ∧ ws9 = ((w2)) ∧ RX G h w2 (o_trigger X (nI (lwN x 5)) (nI (lwN (x >>> (nI 3 &&& 31)) 3)) (nI (lwN (x >>> (nI 5 &&& 31)) 3)) (tbB x)).2) := by
  refine MT.of RL [(0, .ref h), (1, .int v), (2, .int x)] (by decide +kernel) rfl rfl (Nat.le_of_ble_eq_true rfl) (fun κ C E hl9 hG9 hnm9 => ?_)
  subst hl9; subst hG9
  have hsb9 := sbB_lt x
  refine w_iload_n (nx := 1) C 1 dL_act_0 rfl rfl rfl ?_
  refine w_iconst (nx := 2) C (nI 4) dL_act_1 rfl (by decide) ?_
  refine w_ishr (nx := 3) C (v >>> ((nI 4) &&& 31)) dL_act_2 rfl rfl ?_
  refine w_bipush (nx := 5) C (nI 13) dL_act_3 rfl (by decide) ?_
  refine w_callS (nx := 8) (wr := ((w))) (rest := []) C ms_L_low (c_L_low _ _ (v >>> ((nI 4) &&& 31)) 13 (by first | assumption | omega) (by first | assumption | omega)) dL_act_5 rfl wl_L_29 rfl (pm_blkc [w] [] [0] 1 (by decide +kernel) rfl rfl rfl rfl) rfl rfl (Nat.le_of_ble_eq_true rfl) (Nat.le_of_ble_eq_true rfl) (Nat.le_of_ble_eq_true rfl) (Nat.zero_le _) (Nat.zero_le _) (fun v9 w9 R_1 => ?_)
  obtain ⟨rfl, rfl⟩ := R_1
  show WW κ 0 0 ((w)) 8 [(0, .ref h), (1, .int v), (2, .int x)] [.int (nI (lwN (v >>> ((nI 4) &&& 31)) 13))]
  refine w_istore_n (nx := 9) (lo2 := [(3, .int (nI (lwN (v >>> ((nI 4) &&& 31)) 13))), (0, .ref h), (1, .int v), (2, .int x)]) C dL_act_8 rfl rfl (by decide) rfl ?_
  refine w_iload_n (nx := 10) C 2 dL_act_9 rfl rfl rfl ?_
  refine w_bipush (nx := 12) C (nI 15) dL_act_10 rfl (by decide) ?_
  refine w_iand (nx := 13) C (nI 1) dL_act_12 rfl hv ?_
  refine w_tableIn (nx := 72) C dL_act_13 (by decide) (by decide) rfl rfl ?_
  refine w_aload_n (nx := 73) C 1 dL_act_72 rfl rfl rfl ?_
  refine w_iload_n (nx := 74) C 3 dL_act_73 rfl rfl rfl ?_
  refine w_iconst (nx := 75) C (nI 5) dL_act_74 rfl (by decide) ?_
  refine w_callS (nx := 78) (wr := ((w))) (rest := [.ref h]) C ms_L_low (c_L_low _ _ x 5 (by first | assumption | omega) (by first | assumption | omega)) dL_act_75 rfl wl_L_29 rfl (pm_blkc [w] [] [0] 1 (by decide +kernel) rfl rfl rfl rfl) rfl rfl (Nat.le_of_ble_eq_true rfl) (Nat.le_of_ble_eq_true rfl) (Nat.le_of_ble_eq_true rfl) (Nat.zero_le _) (Nat.zero_le _) (fun v9 w9 R_2 => ?_)
  obtain ⟨rfl, rfl⟩ := R_2
  show WW κ 0 0 ((w)) 78 [(3, .int (nI (lwN (v >>> ((nI 4) &&& 31)) 13))), (0, .ref h), (1, .int v), (2, .int x)] [.int (nI (lwN x 5)), .ref h]
  refine w_iload_n (nx := 79) C 3 dL_act_78 rfl rfl rfl ?_
  refine w_iconst (nx := 80) C (nI 3) dL_act_79 rfl (by decide) ?_
  refine w_ishr (nx := 81) C (x >>> ((nI 3) &&& 31)) dL_act_80 rfl rfl ?_
  refine w_iconst (nx := 82) C (nI 3) dL_act_81 rfl (by decide) ?_
  refine w_callS (nx := 85) (wr := ((w))) (rest := [.int (nI (lwN x 5)), .ref h]) C ms_L_low (c_L_low _ _ (x >>> ((nI 3) &&& 31)) 3 (by first | assumption | omega) (by first | assumption | omega)) dL_act_82 rfl wl_L_29 rfl (pm_blkc [w] [] [0] 1 (by decide +kernel) rfl rfl rfl rfl) rfl rfl (Nat.le_of_ble_eq_true rfl) (Nat.le_of_ble_eq_true rfl) (Nat.le_of_ble_eq_true rfl) (Nat.zero_le _) (Nat.zero_le _) (fun v9 w9 R_3 => ?_)
  obtain ⟨rfl, rfl⟩ := R_3
  show WW κ 0 0 ((w)) 85 [(3, .int (nI (lwN (v >>> ((nI 4) &&& 31)) 13))), (0, .ref h), (1, .int v), (2, .int x)] [.int (nI (lwN (x >>> ((nI 3) &&& 31)) 3)), .int (nI (lwN x 5)), .ref h]
  refine w_iload_n (nx := 86) C 3 dL_act_85 rfl rfl rfl ?_
  refine w_iconst (nx := 87) C (nI 5) dL_act_86 rfl (by decide) ?_
  refine w_ishr (nx := 88) C (x >>> ((nI 5) &&& 31)) dL_act_87 rfl rfl ?_
  refine w_iconst (nx := 89) C (nI 3) dL_act_88 rfl (by decide) ?_
  refine w_callS (nx := 92) (wr := ((w))) (rest := [.int (nI (lwN (x >>> ((nI 3) &&& 31)) 3)), .int (nI (lwN x 5)), .ref h]) C ms_L_low (c_L_low _ _ (x >>> ((nI 5) &&& 31)) 3 (by first | assumption | omega) (by first | assumption | omega)) dL_act_89 rfl wl_L_29 rfl (pm_blkc [w] [] [0] 1 (by decide +kernel) rfl rfl rfl rfl) rfl rfl (Nat.le_of_ble_eq_true rfl) (Nat.le_of_ble_eq_true rfl) (Nat.le_of_ble_eq_true rfl) (Nat.zero_le _) (Nat.zero_le _) (fun v9 w9 R_4 => ?_)
  obtain ⟨rfl, rfl⟩ := R_4
  show WW κ 0 0 ((w)) 92 [(3, .int (nI (lwN (v >>> ((nI 4) &&& 31)) 13))), (0, .ref h), (1, .int v), (2, .int x)] [.int (nI (lwN (x >>> ((nI 5) &&& 31)) 3)), .int (nI (lwN (x >>> ((nI 3) &&& 31)) 3)), .int (nI (lwN x 5)), .ref h]
  refine w_iload_n (nx := 93) C 3 dL_act_92 rfl rfl rfl ?_
  refine w_bipush (nx := 95) C (nI 7) dL_act_93 rfl (by decide) ?_
  refine w_ishr (nx := 96) C (x >>> ((nI 7) &&& 31)) dL_act_95 rfl rfl ?_
  refine w_iconst (nx := 97) C (nI 3) dL_act_96 rfl (by decide) ?_
  refine w_iand (nx := 98) C ((x >>> ((nI 7) &&& 31)) &&& (nI 3)) dL_act_97 rfl rfl ?_
  refine w_if_ne (tg := 114) (nx := 101) C dL_act_98 rfl rfl (fun h_5 => ?_) (fun h_5 => ?_)
  · have hb9 := h_5
    refine w_iload_n (nx := 115) C 3 dL_act_114 rfl rfl rfl ?_
    refine w_bipush (nx := 117) C (nI 9) dL_act_115 rfl (by decide) ?_
    refine w_ishr (nx := 118) C (x >>> ((nI 9) &&& 31)) dL_act_117 rfl rfl ?_
    refine w_bipush (nx := 120) C (nI 20) dL_act_118 rfl (by decide) ?_
    refine w_callS (nx := 123) (wr := ((w))) (rest := [.int (nI (lwN (x >>> ((nI 5) &&& 31)) 3)), .int (nI (lwN (x >>> ((nI 3) &&& 31)) 3)), .int (nI (lwN x 5)), .ref h]) C ms_L_low (c_L_low _ _ (x >>> ((nI 9) &&& 31)) 20 (by first | assumption | omega) (by first | assumption | omega)) dL_act_120 rfl wl_L_29 rfl (pm_blkc [w] [] [0] 1 (by decide +kernel) rfl rfl rfl rfl) rfl rfl (Nat.le_of_ble_eq_true rfl) (Nat.le_of_ble_eq_true rfl) (Nat.le_of_ble_eq_true rfl) (Nat.zero_le _) (Nat.zero_le _) (fun v9 w9 R_6 => ?_)
    obtain ⟨rfl, rfl⟩ := R_6
    show WW κ 0 0 ((w)) 123 [(3, .int (nI (lwN (v >>> ((nI 4) &&& 31)) 13))), (0, .ref h), (1, .int v), (2, .int x)] [.int (nI (lwN (x >>> ((nI 9) &&& 31)) 20)), .int (nI (lwN (x >>> ((nI 5) &&& 31)) 3)), .int (nI (lwN (x >>> ((nI 3) &&& 31)) 3)), .int (nI (lwN x 5)), .ref h]
    refine w_top (tbB x) ((if_neg hb9).symm) ?_
    obtain ⟨_, hv_8⟩ := RX_recv (G := kG κ) (h := h) (w := w) (X := X) (by assumption)
    refine w_callV (nx := 126) (wr := []) (rest := []) (ci := 8) C mi_X8_trigger (c_X8_trigger _ _ h w X (nI (lwN x 5)) (nI (lwN (x >>> ((nI 3) &&& 31)) 3)) (nI (lwN (x >>> ((nI 5) &&& 31)) 3)) (tbB x) (by first | assumption | omega)) 0 dL_act_123 rfl wl_L_37 rfl rfl hv_8 (pm_blkc [w] [0] [] 1 (by decide +kernel) rfl rfl rfl rfl) rfl rfl (Nat.le_of_ble_eq_true rfl) (Nat.le_of_ble_eq_true rfl) (Nat.le_of_ble_eq_true rfl) (Nat.le_of_ble_eq_true rfl) (Nat.le_of_ble_eq_true rfl) (fun v9 w2_9 R_7 => ?_)
    obtain ⟨w9, rfl, rfl, hRX2_10⟩ := R_7
    refine ww_perm (pm_blkj [w2_9] [] [0] 1 (by decide +kernel) rfl rfl rfl rfl) ?_
    show WW κ 10 813 ((w2_9)) 126 [(3, .int (nI (lwN (v >>> ((nI 4) &&& 31)) 13))), (0, .ref h), (1, .int v), (2, .int x)] [.int ((o_trigger X (nI (lwN x 5)) (nI (lwN (x >>> ((nI 3) &&& 31)) 3)) (nI (lwN (x >>> ((nI 5) &&& 31)) 3)) (tbB x)).1)]
    exact w_iret (ty := .int) C E dL_act_126 rfl rfl (Nat.le_refl _) (Nat.le_refl _) ⟨_, rfl, rfl, (by first | assumption | rfl | omega)⟩
  · have hb9 := h_5
    refine w_iload_n (nx := 102) C 3 dL_act_101 rfl rfl rfl ?_
    refine w_bipush (nx := 104) C (nI 9) dL_act_102 rfl (by decide) ?_
    refine w_ishr (nx := 105) C (x >>> ((nI 9) &&& 31)) dL_act_104 rfl rfl ?_
    refine w_sipush (nx := 108) C (nI 1001) dL_act_105 rfl (by decide) ?_
    refine w_callS (nx := 111) (wr := ((w))) (rest := [.int (nI (lwN (x >>> ((nI 5) &&& 31)) 3)), .int (nI (lwN (x >>> ((nI 3) &&& 31)) 3)), .int (nI (lwN x 5)), .ref h]) C ms_L_low (c_L_low _ _ (x >>> ((nI 9) &&& 31)) 1001 (by first | assumption | omega) (by first | assumption | omega)) dL_act_108 rfl wl_L_29 rfl (pm_blkc [w] [] [0] 1 (by decide +kernel) rfl rfl rfl rfl) rfl rfl (Nat.le_of_ble_eq_true rfl) (Nat.le_of_ble_eq_true rfl) (Nat.le_of_ble_eq_true rfl) (Nat.zero_le _) (Nat.zero_le _) (fun v9 w9 R_11 => ?_)
    obtain ⟨rfl, rfl⟩ := R_11
    show WW κ 0 0 ((w)) 111 [(3, .int (nI (lwN (v >>> ((nI 4) &&& 31)) 13))), (0, .ref h), (1, .int v), (2, .int x)] [.int (nI (lwN (x >>> ((nI 9) &&& 31)) 1001)), .int (nI (lwN (x >>> ((nI 5) &&& 31)) 3)), .int (nI (lwN (x >>> ((nI 3) &&& 31)) 3)), .int (nI (lwN x 5)), .ref h]
    refine w_goto (nx := 123) C dL_act_111 rfl ?_
    refine w_top (tbB x) ((if_pos hb9).symm) ?_
    obtain ⟨_, hv_13⟩ := RX_recv (G := kG κ) (h := h) (w := w) (X := X) (by assumption)
    refine w_callV (nx := 126) (wr := []) (rest := []) (ci := 8) C mi_X8_trigger (c_X8_trigger _ _ h w X (nI (lwN x 5)) (nI (lwN (x >>> ((nI 3) &&& 31)) 3)) (nI (lwN (x >>> ((nI 5) &&& 31)) 3)) (tbB x) (by first | assumption | omega)) 0 dL_act_123 rfl wl_L_37 rfl rfl hv_13 (pm_blkc [w] [0] [] 1 (by decide +kernel) rfl rfl rfl rfl) rfl rfl (Nat.le_of_ble_eq_true rfl) (Nat.le_of_ble_eq_true rfl) (Nat.le_of_ble_eq_true rfl) (Nat.le_of_ble_eq_true rfl) (Nat.le_of_ble_eq_true rfl) (fun v9 w2_14 R_12 => ?_)
    obtain ⟨w9, rfl, rfl, hRX2_15⟩ := R_12
    refine ww_perm (pm_blkj [w2_14] [] [0] 1 (by decide +kernel) rfl rfl rfl rfl) ?_
    show WW κ 10 813 ((w2_14)) 126 [(3, .int (nI (lwN (v >>> ((nI 4) &&& 31)) 13))), (0, .ref h), (1, .int v), (2, .int x)] [.int ((o_trigger X (nI (lwN x 5)) (nI (lwN (x >>> ((nI 3) &&& 31)) 3)) (nI (lwN (x >>> ((nI 5) &&& 31)) 3)) (tbB x)).1)]
    exact w_iret (ty := .int) C E dL_act_126 rfl rfl (Nat.le_refl _) (Nat.le_refl _) ⟨_, rfl, rfl, (by first | assumption | rfl | omega)⟩
set_option maxHeartbeats 4000000 in
set_option maxRecDepth 100000 in
theorem act_2 (l : Launch) (G : GG) (h : Nat) (w : va_W) (X : SX) (v : Int32) (x : Int32) (hRX : RX G h w X) (hv : v &&& nI 15 = nI 2) : MT l G yL_act cL_act 4 (some .int) 62 10 813 [.ref h, .int v, .int x] ((w)) (fun v9 ws9 => ∃ (w2 : va_W), v9 = some (.int ((o_trigger X (nI (lwN x 5)) (nI (lwN (x >>> (nI 3 &&& 31)) 3)) (nI (lwN (x >>> (nI 5 &&& 31)) 3)) (tbB x)).1)) ∧ ws9 = ((w2)) ∧ RX G h w2 (o_trigger X (nI (lwN x 5)) (nI (lwN (x >>> (nI 3 &&& 31)) 3)) (nI (lwN (x >>> (nI 5 &&& 31)) 3)) (tbB x)).2) := by
  refine MT.of RL [(0, .ref h), (1, .int v), (2, .int x)] (by decide +kernel) rfl rfl (Nat.le_of_ble_eq_true rfl) (fun κ C E hl9 hG9 hnm9 => ?_)
  subst hl9; subst hG9
  have hsb9 := sbB_lt x
  refine w_iload_n (nx := 1) C 1 dL_act_0 rfl rfl rfl ?_
  refine w_iconst (nx := 2) C (nI 4) dL_act_1 rfl (by decide) ?_
  refine w_ishr (nx := 3) C (v >>> ((nI 4) &&& 31)) dL_act_2 rfl rfl ?_
  refine w_bipush (nx := 5) C (nI 13) dL_act_3 rfl (by decide) ?_
  refine w_callS (nx := 8) (wr := ((w))) (rest := []) C ms_L_low (c_L_low _ _ (v >>> ((nI 4) &&& 31)) 13 (by first | assumption | omega) (by first | assumption | omega)) dL_act_5 rfl wl_L_29 rfl (pm_blkc [w] [] [0] 1 (by decide +kernel) rfl rfl rfl rfl) rfl rfl (Nat.le_of_ble_eq_true rfl) (Nat.le_of_ble_eq_true rfl) (Nat.le_of_ble_eq_true rfl) (Nat.zero_le _) (Nat.zero_le _) (fun v9 w9 R_1 => ?_)
  obtain ⟨rfl, rfl⟩ := R_1
  show WW κ 0 0 ((w)) 8 [(0, .ref h), (1, .int v), (2, .int x)] [.int (nI (lwN (v >>> ((nI 4) &&& 31)) 13))]
  refine w_istore_n (nx := 9) (lo2 := [(3, .int (nI (lwN (v >>> ((nI 4) &&& 31)) 13))), (0, .ref h), (1, .int v), (2, .int x)]) C dL_act_8 rfl rfl (by decide) rfl ?_
  refine w_iload_n (nx := 10) C 2 dL_act_9 rfl rfl rfl ?_
  refine w_bipush (nx := 12) C (nI 15) dL_act_10 rfl (by decide) ?_
  refine w_iand (nx := 13) C (nI 2) dL_act_12 rfl hv ?_
  refine w_tableIn (nx := 72) C dL_act_13 (by decide) (by decide) rfl rfl ?_
  refine w_aload_n (nx := 73) C 1 dL_act_72 rfl rfl rfl ?_
  refine w_iload_n (nx := 74) C 3 dL_act_73 rfl rfl rfl ?_
  refine w_iconst (nx := 75) C (nI 5) dL_act_74 rfl (by decide) ?_
  refine w_callS (nx := 78) (wr := ((w))) (rest := [.ref h]) C ms_L_low (c_L_low _ _ x 5 (by first | assumption | omega) (by first | assumption | omega)) dL_act_75 rfl wl_L_29 rfl (pm_blkc [w] [] [0] 1 (by decide +kernel) rfl rfl rfl rfl) rfl rfl (Nat.le_of_ble_eq_true rfl) (Nat.le_of_ble_eq_true rfl) (Nat.le_of_ble_eq_true rfl) (Nat.zero_le _) (Nat.zero_le _) (fun v9 w9 R_2 => ?_)
  obtain ⟨rfl, rfl⟩ := R_2
  show WW κ 0 0 ((w)) 78 [(3, .int (nI (lwN (v >>> ((nI 4) &&& 31)) 13))), (0, .ref h), (1, .int v), (2, .int x)] [.int (nI (lwN x 5)), .ref h]
  refine w_iload_n (nx := 79) C 3 dL_act_78 rfl rfl rfl ?_
  refine w_iconst (nx := 80) C (nI 3) dL_act_79 rfl (by decide) ?_
  refine w_ishr (nx := 81) C (x >>> ((nI 3) &&& 31)) dL_act_80 rfl rfl ?_
  refine w_iconst (nx := 82) C (nI 3) dL_act_81 rfl (by decide) ?_
  refine w_callS (nx := 85) (wr := ((w))) (rest := [.int (nI (lwN x 5)), .ref h]) C ms_L_low (c_L_low _ _ (x >>> ((nI 3) &&& 31)) 3 (by first | assumption | omega) (by first | assumption | omega)) dL_act_82 rfl wl_L_29 rfl (pm_blkc [w] [] [0] 1 (by decide +kernel) rfl rfl rfl rfl) rfl rfl (Nat.le_of_ble_eq_true rfl) (Nat.le_of_ble_eq_true rfl) (Nat.le_of_ble_eq_true rfl) (Nat.zero_le _) (Nat.zero_le _) (fun v9 w9 R_3 => ?_)
  obtain ⟨rfl, rfl⟩ := R_3
  show WW κ 0 0 ((w)) 85 [(3, .int (nI (lwN (v >>> ((nI 4) &&& 31)) 13))), (0, .ref h), (1, .int v), (2, .int x)] [.int (nI (lwN (x >>> ((nI 3) &&& 31)) 3)), .int (nI (lwN x 5)), .ref h]
  refine w_iload_n (nx := 86) C 3 dL_act_85 rfl rfl rfl ?_
  refine w_iconst (nx := 87) C (nI 5) dL_act_86 rfl (by decide) ?_
  refine w_ishr (nx := 88) C (x >>> ((nI 5) &&& 31)) dL_act_87 rfl rfl ?_
  refine w_iconst (nx := 89) C (nI 3) dL_act_88 rfl (by decide) ?_
  refine w_callS (nx := 92) (wr := ((w))) (rest := [.int (nI (lwN (x >>> ((nI 3) &&& 31)) 3)), .int (nI (lwN x 5)), .ref h]) C ms_L_low (c_L_low _ _ (x >>> ((nI 5) &&& 31)) 3 (by first | assumption | omega) (by first | assumption | omega)) dL_act_89 rfl wl_L_29 rfl (pm_blkc [w] [] [0] 1 (by decide +kernel) rfl rfl rfl rfl) rfl rfl (Nat.le_of_ble_eq_true rfl) (Nat.le_of_ble_eq_true rfl) (Nat.le_of_ble_eq_true rfl) (Nat.zero_le _) (Nat.zero_le _) (fun v9 w9 R_4 => ?_)
  obtain ⟨rfl, rfl⟩ := R_4
  show WW κ 0 0 ((w)) 92 [(3, .int (nI (lwN (v >>> ((nI 4) &&& 31)) 13))), (0, .ref h), (1, .int v), (2, .int x)] [.int (nI (lwN (x >>> ((nI 5) &&& 31)) 3)), .int (nI (lwN (x >>> ((nI 3) &&& 31)) 3)), .int (nI (lwN x 5)), .ref h]
  refine w_iload_n (nx := 93) C 3 dL_act_92 rfl rfl rfl ?_
  refine w_bipush (nx := 95) C (nI 7) dL_act_93 rfl (by decide) ?_
  refine w_ishr (nx := 96) C (x >>> ((nI 7) &&& 31)) dL_act_95 rfl rfl ?_
  refine w_iconst (nx := 97) C (nI 3) dL_act_96 rfl (by decide) ?_
  refine w_iand (nx := 98) C ((x >>> ((nI 7) &&& 31)) &&& (nI 3)) dL_act_97 rfl rfl ?_
  refine w_if_ne (tg := 114) (nx := 101) C dL_act_98 rfl rfl (fun h_5 => ?_) (fun h_5 => ?_)
  · have hb9 := h_5
    refine w_iload_n (nx := 115) C 3 dL_act_114 rfl rfl rfl ?_
    refine w_bipush (nx := 117) C (nI 9) dL_act_115 rfl (by decide) ?_
    refine w_ishr (nx := 118) C (x >>> ((nI 9) &&& 31)) dL_act_117 rfl rfl ?_
    refine w_bipush (nx := 120) C (nI 20) dL_act_118 rfl (by decide) ?_
    refine w_callS (nx := 123) (wr := ((w))) (rest := [.int (nI (lwN (x >>> ((nI 5) &&& 31)) 3)), .int (nI (lwN (x >>> ((nI 3) &&& 31)) 3)), .int (nI (lwN x 5)), .ref h]) C ms_L_low (c_L_low _ _ (x >>> ((nI 9) &&& 31)) 20 (by first | assumption | omega) (by first | assumption | omega)) dL_act_120 rfl wl_L_29 rfl (pm_blkc [w] [] [0] 1 (by decide +kernel) rfl rfl rfl rfl) rfl rfl (Nat.le_of_ble_eq_true rfl) (Nat.le_of_ble_eq_true rfl) (Nat.le_of_ble_eq_true rfl) (Nat.zero_le _) (Nat.zero_le _) (fun v9 w9 R_6 => ?_)
    obtain ⟨rfl, rfl⟩ := R_6
    show WW κ 0 0 ((w)) 123 [(3, .int (nI (lwN (v >>> ((nI 4) &&& 31)) 13))), (0, .ref h), (1, .int v), (2, .int x)] [.int (nI (lwN (x >>> ((nI 9) &&& 31)) 20)), .int (nI (lwN (x >>> ((nI 5) &&& 31)) 3)), .int (nI (lwN (x >>> ((nI 3) &&& 31)) 3)), .int (nI (lwN x 5)), .ref h]
    refine w_top (tbB x) ((if_neg hb9).symm) ?_
    obtain ⟨_, hv_8⟩ := RX_recv (G := kG κ) (h := h) (w := w) (X := X) (by assumption)
    refine w_callV (nx := 126) (wr := []) (rest := []) (ci := 8) C mi_X8_trigger (c_X8_trigger _ _ h w X (nI (lwN x 5)) (nI (lwN (x >>> ((nI 3) &&& 31)) 3)) (nI (lwN (x >>> ((nI 5) &&& 31)) 3)) (tbB x) (by first | assumption | omega)) 0 dL_act_123 rfl wl_L_37 rfl rfl hv_8 (pm_blkc [w] [0] [] 1 (by decide +kernel) rfl rfl rfl rfl) rfl rfl (Nat.le_of_ble_eq_true rfl) (Nat.le_of_ble_eq_true rfl) (Nat.le_of_ble_eq_true rfl) (Nat.le_of_ble_eq_true rfl) (Nat.le_of_ble_eq_true rfl) (fun v9 w2_9 R_7 => ?_)
    obtain ⟨w9, rfl, rfl, hRX2_10⟩ := R_7
    refine ww_perm (pm_blkj [w2_9] [] [0] 1 (by decide +kernel) rfl rfl rfl rfl) ?_
    show WW κ 10 813 ((w2_9)) 126 [(3, .int (nI (lwN (v >>> ((nI 4) &&& 31)) 13))), (0, .ref h), (1, .int v), (2, .int x)] [.int ((o_trigger X (nI (lwN x 5)) (nI (lwN (x >>> ((nI 3) &&& 31)) 3)) (nI (lwN (x >>> ((nI 5) &&& 31)) 3)) (tbB x)).1)]
    exact w_iret (ty := .int) C E dL_act_126 rfl rfl (Nat.le_refl _) (Nat.le_refl _) ⟨_, rfl, rfl, (by first | assumption | rfl | omega)⟩
  · have hb9 := h_5
    refine w_iload_n (nx := 102) C 3 dL_act_101 rfl rfl rfl ?_
    refine w_bipush (nx := 104) C (nI 9) dL_act_102 rfl (by decide) ?_
    refine w_ishr (nx := 105) C (x >>> ((nI 9) &&& 31)) dL_act_104 rfl rfl ?_
    refine w_sipush (nx := 108) C (nI 1001) dL_act_105 rfl (by decide) ?_
    refine w_callS (nx := 111) (wr := ((w))) (rest := [.int (nI (lwN (x >>> ((nI 5) &&& 31)) 3)), .int (nI (lwN (x >>> ((nI 3) &&& 31)) 3)), .int (nI (lwN x 5)), .ref h]) C ms_L_low (c_L_low _ _ (x >>> ((nI 9) &&& 31)) 1001 (by first | assumption | omega) (by first | assumption | omega)) dL_act_108 rfl wl_L_29 rfl (pm_blkc [w] [] [0] 1 (by decide +kernel) rfl rfl rfl rfl) rfl rfl (Nat.le_of_ble_eq_true rfl) (Nat.le_of_ble_eq_true rfl) (Nat.le_of_ble_eq_true rfl) (Nat.zero_le _) (Nat.zero_le _) (fun v9 w9 R_11 => ?_)
    obtain ⟨rfl, rfl⟩ := R_11
    show WW κ 0 0 ((w)) 111 [(3, .int (nI (lwN (v >>> ((nI 4) &&& 31)) 13))), (0, .ref h), (1, .int v), (2, .int x)] [.int (nI (lwN (x >>> ((nI 9) &&& 31)) 1001)), .int (nI (lwN (x >>> ((nI 5) &&& 31)) 3)), .int (nI (lwN (x >>> ((nI 3) &&& 31)) 3)), .int (nI (lwN x 5)), .ref h]
    refine w_goto (nx := 123) C dL_act_111 rfl ?_
    refine w_top (tbB x) ((if_pos hb9).symm) ?_
    obtain ⟨_, hv_13⟩ := RX_recv (G := kG κ) (h := h) (w := w) (X := X) (by assumption)
    refine w_callV (nx := 126) (wr := []) (rest := []) (ci := 8) C mi_X8_trigger (c_X8_trigger _ _ h w X (nI (lwN x 5)) (nI (lwN (x >>> ((nI 3) &&& 31)) 3)) (nI (lwN (x >>> ((nI 5) &&& 31)) 3)) (tbB x) (by first | assumption | omega)) 0 dL_act_123 rfl wl_L_37 rfl rfl hv_13 (pm_blkc [w] [0] [] 1 (by decide +kernel) rfl rfl rfl rfl) rfl rfl (Nat.le_of_ble_eq_true rfl) (Nat.le_of_ble_eq_true rfl) (Nat.le_of_ble_eq_true rfl) (Nat.le_of_ble_eq_true rfl) (Nat.le_of_ble_eq_true rfl) (fun v9 w2_14 R_12 => ?_)
    obtain ⟨w9, rfl, rfl, hRX2_15⟩ := R_12
    refine ww_perm (pm_blkj [w2_14] [] [0] 1 (by decide +kernel) rfl rfl rfl rfl) ?_
    show WW κ 10 813 ((w2_14)) 126 [(3, .int (nI (lwN (v >>> ((nI 4) &&& 31)) 13))), (0, .ref h), (1, .int v), (2, .int x)] [.int ((o_trigger X (nI (lwN x 5)) (nI (lwN (x >>> ((nI 3) &&& 31)) 3)) (nI (lwN (x >>> ((nI 5) &&& 31)) 3)) (tbB x)).1)]
    exact w_iret (ty := .int) C E dL_act_126 rfl rfl (Nat.le_refl _) (Nat.le_refl _) ⟨_, rfl, rfl, (by first | assumption | rfl | omega)⟩
set_option maxHeartbeats 4000000 in
set_option maxRecDepth 100000 in
theorem act_3 (l : Launch) (G : GG) (h : Nat) (w : va_W) (X : SX) (v : Int32) (x : Int32) (hRX : RX G h w X) (hv : v &&& nI 15 = nI 3) : MT l G yL_act cL_act 4 (some .int) 62 10 813 [.ref h, .int v, .int x] ((w)) (fun v9 ws9 => ∃ (w2 : va_W), v9 = some (.int ((o_deed X (nI (lwN (v >>> (nI 4 &&& 31)) 13)) (nI (lwN x 4)) (nI (lwN (x >>> (nI 2 &&& 31)) 4)) (dbB x) (nI (lwN (x >>> (nI 13 &&& 31)) 200))).1)) ∧ ws9 = ((w2)) ∧ RX G h w2 (o_deed X (nI (lwN (v >>> (nI 4 &&& 31)) 13)) (nI (lwN x 4)) (nI (lwN (x >>> (nI 2 &&& 31)) 4)) (dbB x) (nI (lwN (x >>> (nI 13 &&& 31)) 200))).2) := by
  refine MT.of RL [(0, .ref h), (1, .int v), (2, .int x)] (by decide +kernel) rfl rfl (Nat.le_of_ble_eq_true rfl) (fun κ C E hl9 hG9 hnm9 => ?_)
  subst hl9; subst hG9
  have hsb9 := sbB_lt x
  refine w_iload_n (nx := 1) C 1 dL_act_0 rfl rfl rfl ?_
  refine w_iconst (nx := 2) C (nI 4) dL_act_1 rfl (by decide) ?_
  refine w_ishr (nx := 3) C (v >>> ((nI 4) &&& 31)) dL_act_2 rfl rfl ?_
  refine w_bipush (nx := 5) C (nI 13) dL_act_3 rfl (by decide) ?_
  refine w_callS (nx := 8) (wr := ((w))) (rest := []) C ms_L_low (c_L_low _ _ (v >>> ((nI 4) &&& 31)) 13 (by first | assumption | omega) (by first | assumption | omega)) dL_act_5 rfl wl_L_29 rfl (pm_blkc [w] [] [0] 1 (by decide +kernel) rfl rfl rfl rfl) rfl rfl (Nat.le_of_ble_eq_true rfl) (Nat.le_of_ble_eq_true rfl) (Nat.le_of_ble_eq_true rfl) (Nat.zero_le _) (Nat.zero_le _) (fun v9 w9 R_1 => ?_)
  obtain ⟨rfl, rfl⟩ := R_1
  show WW κ 0 0 ((w)) 8 [(0, .ref h), (1, .int v), (2, .int x)] [.int (nI (lwN (v >>> ((nI 4) &&& 31)) 13))]
  refine w_istore_n (nx := 9) (lo2 := [(3, .int (nI (lwN (v >>> ((nI 4) &&& 31)) 13))), (0, .ref h), (1, .int v), (2, .int x)]) C dL_act_8 rfl rfl (by decide) rfl ?_
  refine w_iload_n (nx := 10) C 2 dL_act_9 rfl rfl rfl ?_
  refine w_bipush (nx := 12) C (nI 15) dL_act_10 rfl (by decide) ?_
  refine w_iand (nx := 13) C (nI 3) dL_act_12 rfl hv ?_
  refine w_tableIn (nx := 127) C dL_act_13 (by decide) (by decide) rfl rfl ?_
  refine w_aload_n (nx := 128) C 1 dL_act_127 rfl rfl rfl ?_
  refine w_iload_n (nx := 129) C 0 dL_act_128 rfl rfl rfl ?_
  refine w_iload_n (nx := 130) C 3 dL_act_129 rfl rfl rfl ?_
  refine w_iconst (nx := 131) C (nI 4) dL_act_130 rfl (by decide) ?_
  refine w_callS (nx := 134) (wr := ((w))) (rest := [.int (nI (lwN (v >>> ((nI 4) &&& 31)) 13)), .ref h]) C ms_L_low (c_L_low _ _ x 4 (by first | assumption | omega) (by first | assumption | omega)) dL_act_131 rfl wl_L_29 rfl (pm_blkc [w] [] [0] 1 (by decide +kernel) rfl rfl rfl rfl) rfl rfl (Nat.le_of_ble_eq_true rfl) (Nat.le_of_ble_eq_true rfl) (Nat.le_of_ble_eq_true rfl) (Nat.zero_le _) (Nat.zero_le _) (fun v9 w9 R_2 => ?_)
  obtain ⟨rfl, rfl⟩ := R_2
  show WW κ 0 0 ((w)) 134 [(3, .int (nI (lwN (v >>> ((nI 4) &&& 31)) 13))), (0, .ref h), (1, .int v), (2, .int x)] [.int (nI (lwN x 4)), .int (nI (lwN (v >>> ((nI 4) &&& 31)) 13)), .ref h]
  refine w_iload_n (nx := 135) C 3 dL_act_134 rfl rfl rfl ?_
  refine w_iconst (nx := 136) C (nI 2) dL_act_135 rfl (by decide) ?_
  refine w_ishr (nx := 137) C (x >>> ((nI 2) &&& 31)) dL_act_136 rfl rfl ?_
  refine w_iconst (nx := 138) C (nI 4) dL_act_137 rfl (by decide) ?_
  refine w_callS (nx := 141) (wr := ((w))) (rest := [.int (nI (lwN x 4)), .int (nI (lwN (v >>> ((nI 4) &&& 31)) 13)), .ref h]) C ms_L_low (c_L_low _ _ (x >>> ((nI 2) &&& 31)) 4 (by first | assumption | omega) (by first | assumption | omega)) dL_act_138 rfl wl_L_29 rfl (pm_blkc [w] [] [0] 1 (by decide +kernel) rfl rfl rfl rfl) rfl rfl (Nat.le_of_ble_eq_true rfl) (Nat.le_of_ble_eq_true rfl) (Nat.le_of_ble_eq_true rfl) (Nat.zero_le _) (Nat.zero_le _) (fun v9 w9 R_3 => ?_)
  obtain ⟨rfl, rfl⟩ := R_3
  show WW κ 0 0 ((w)) 141 [(3, .int (nI (lwN (v >>> ((nI 4) &&& 31)) 13))), (0, .ref h), (1, .int v), (2, .int x)] [.int (nI (lwN (x >>> ((nI 2) &&& 31)) 4)), .int (nI (lwN x 4)), .int (nI (lwN (v >>> ((nI 4) &&& 31)) 13)), .ref h]
  refine w_iload_n (nx := 142) C 3 dL_act_141 rfl rfl rfl ?_
  refine w_iconst (nx := 143) C (nI 4) dL_act_142 rfl (by decide) ?_
  refine w_ishr (nx := 144) C (x >>> ((nI 4) &&& 31)) dL_act_143 rfl rfl ?_
  refine w_iconst (nx := 145) C (nI 3) dL_act_144 rfl (by decide) ?_
  refine w_iand (nx := 146) C ((x >>> ((nI 4) &&& 31)) &&& (nI 3)) dL_act_145 rfl rfl ?_
  refine w_if_ne (tg := 161) (nx := 149) C dL_act_146 rfl rfl (fun h_4 => ?_) (fun h_4 => ?_)
  · have hb9 := h_4
    refine w_iconst (nx := 162) C (nI 0) dL_act_161 rfl (by decide) ?_
    refine w_top (dbB x) ((if_neg hb9).symm) ?_
    refine w_iload_n (nx := 163) C 3 dL_act_162 rfl rfl rfl ?_
    refine w_bipush (nx := 165) C (nI 13) dL_act_163 rfl (by decide) ?_
    refine w_ishr (nx := 166) C (x >>> ((nI 13) &&& 31)) dL_act_165 rfl rfl ?_
    refine w_sipush (nx := 169) C (nI 200) dL_act_166 rfl (by decide) ?_
    refine w_callS (nx := 172) (wr := ((w))) (rest := [.int (dbB x), .int (nI (lwN (x >>> ((nI 2) &&& 31)) 4)), .int (nI (lwN x 4)), .int (nI (lwN (v >>> ((nI 4) &&& 31)) 13)), .ref h]) C ms_L_low (c_L_low _ _ (x >>> ((nI 13) &&& 31)) 200 (by first | assumption | omega) (by first | assumption | omega)) dL_act_169 rfl wl_L_29 rfl (pm_blkc [w] [] [0] 1 (by decide +kernel) rfl rfl rfl rfl) rfl rfl (Nat.le_of_ble_eq_true rfl) (Nat.le_of_ble_eq_true rfl) (Nat.le_of_ble_eq_true rfl) (Nat.zero_le _) (Nat.zero_le _) (fun v9 w9 R_5 => ?_)
    obtain ⟨rfl, rfl⟩ := R_5
    show WW κ 0 0 ((w)) 172 [(3, .int (nI (lwN (v >>> ((nI 4) &&& 31)) 13))), (0, .ref h), (1, .int v), (2, .int x)] [.int (nI (lwN (x >>> ((nI 13) &&& 31)) 200)), .int (dbB x), .int (nI (lwN (x >>> ((nI 2) &&& 31)) 4)), .int (nI (lwN x 4)), .int (nI (lwN (v >>> ((nI 4) &&& 31)) 13)), .ref h]
    obtain ⟨_, hv_7⟩ := RX_recv (G := kG κ) (h := h) (w := w) (X := X) (by assumption)
    refine w_callV (nx := 175) (wr := []) (rest := []) (ci := 8) C mi_X8_deed (c_X8_deed _ _ h w X (nI (lwN (v >>> ((nI 4) &&& 31)) 13)) (nI (lwN x 4)) (nI (lwN (x >>> ((nI 2) &&& 31)) 4)) (dbB x) (nI (lwN (x >>> ((nI 13) &&& 31)) 200)) (by first | assumption | omega)) 0 dL_act_172 rfl wl_L_41 rfl rfl hv_7 (pm_blkc [w] [0] [] 1 (by decide +kernel) rfl rfl rfl rfl) rfl rfl (Nat.le_of_ble_eq_true rfl) (Nat.le_of_ble_eq_true rfl) (Nat.le_of_ble_eq_true rfl) (Nat.le_of_ble_eq_true rfl) (Nat.le_of_ble_eq_true rfl) (fun v9 w2_8 R_6 => ?_)
    obtain ⟨w9, rfl, rfl, hRX2_9⟩ := R_6
    refine ww_perm (pm_blkj [w2_8] [] [0] 1 (by decide +kernel) rfl rfl rfl rfl) ?_
    show WW κ 10 813 ((w2_8)) 175 [(3, .int (nI (lwN (v >>> ((nI 4) &&& 31)) 13))), (0, .ref h), (1, .int v), (2, .int x)] [.int ((o_deed X (nI (lwN (v >>> ((nI 4) &&& 31)) 13)) (nI (lwN x 4)) (nI (lwN (x >>> ((nI 2) &&& 31)) 4)) (dbB x) (nI (lwN (x >>> ((nI 13) &&& 31)) 200))).1)]
    exact w_iret (ty := .int) C E dL_act_175 rfl rfl (Nat.le_refl _) (Nat.le_refl _) ⟨_, rfl, rfl, (by first | assumption | rfl | omega)⟩
  · have hb9 := h_4
    refine w_iload_n (nx := 150) C 3 dL_act_149 rfl rfl rfl ?_
    refine w_bipush (nx := 152) C (nI 6) dL_act_150 rfl (by decide) ?_
    refine w_ishr (nx := 153) C (x >>> ((nI 6) &&& 31)) dL_act_152 rfl rfl ?_
    refine w_bipush (nx := 155) C (nI 101) dL_act_153 rfl (by decide) ?_
    refine w_callS (nx := 158) (wr := ((w))) (rest := [.int (nI (lwN (x >>> ((nI 2) &&& 31)) 4)), .int (nI (lwN x 4)), .int (nI (lwN (v >>> ((nI 4) &&& 31)) 13)), .ref h]) C ms_L_low (c_L_low _ _ (x >>> ((nI 6) &&& 31)) 101 (by first | assumption | omega) (by first | assumption | omega)) dL_act_155 rfl wl_L_29 rfl (pm_blkc [w] [] [0] 1 (by decide +kernel) rfl rfl rfl rfl) rfl rfl (Nat.le_of_ble_eq_true rfl) (Nat.le_of_ble_eq_true rfl) (Nat.le_of_ble_eq_true rfl) (Nat.zero_le _) (Nat.zero_le _) (fun v9 w9 R_10 => ?_)
    obtain ⟨rfl, rfl⟩ := R_10
    show WW κ 0 0 ((w)) 158 [(3, .int (nI (lwN (v >>> ((nI 4) &&& 31)) 13))), (0, .ref h), (1, .int v), (2, .int x)] [.int (nI (lwN (x >>> ((nI 6) &&& 31)) 101)), .int (nI (lwN (x >>> ((nI 2) &&& 31)) 4)), .int (nI (lwN x 4)), .int (nI (lwN (v >>> ((nI 4) &&& 31)) 13)), .ref h]
    refine w_goto (nx := 162) C dL_act_158 rfl ?_
    refine w_top (dbB x) ((if_pos hb9).symm) ?_
    refine w_iload_n (nx := 163) C 3 dL_act_162 rfl rfl rfl ?_
    refine w_bipush (nx := 165) C (nI 13) dL_act_163 rfl (by decide) ?_
    refine w_ishr (nx := 166) C (x >>> ((nI 13) &&& 31)) dL_act_165 rfl rfl ?_
    refine w_sipush (nx := 169) C (nI 200) dL_act_166 rfl (by decide) ?_
    refine w_callS (nx := 172) (wr := ((w))) (rest := [.int (dbB x), .int (nI (lwN (x >>> ((nI 2) &&& 31)) 4)), .int (nI (lwN x 4)), .int (nI (lwN (v >>> ((nI 4) &&& 31)) 13)), .ref h]) C ms_L_low (c_L_low _ _ (x >>> ((nI 13) &&& 31)) 200 (by first | assumption | omega) (by first | assumption | omega)) dL_act_169 rfl wl_L_29 rfl (pm_blkc [w] [] [0] 1 (by decide +kernel) rfl rfl rfl rfl) rfl rfl (Nat.le_of_ble_eq_true rfl) (Nat.le_of_ble_eq_true rfl) (Nat.le_of_ble_eq_true rfl) (Nat.zero_le _) (Nat.zero_le _) (fun v9 w9 R_11 => ?_)
    obtain ⟨rfl, rfl⟩ := R_11
    show WW κ 0 0 ((w)) 172 [(3, .int (nI (lwN (v >>> ((nI 4) &&& 31)) 13))), (0, .ref h), (1, .int v), (2, .int x)] [.int (nI (lwN (x >>> ((nI 13) &&& 31)) 200)), .int (dbB x), .int (nI (lwN (x >>> ((nI 2) &&& 31)) 4)), .int (nI (lwN x 4)), .int (nI (lwN (v >>> ((nI 4) &&& 31)) 13)), .ref h]
    obtain ⟨_, hv_13⟩ := RX_recv (G := kG κ) (h := h) (w := w) (X := X) (by assumption)
    refine w_callV (nx := 175) (wr := []) (rest := []) (ci := 8) C mi_X8_deed (c_X8_deed _ _ h w X (nI (lwN (v >>> ((nI 4) &&& 31)) 13)) (nI (lwN x 4)) (nI (lwN (x >>> ((nI 2) &&& 31)) 4)) (dbB x) (nI (lwN (x >>> ((nI 13) &&& 31)) 200)) (by first | assumption | omega)) 0 dL_act_172 rfl wl_L_41 rfl rfl hv_13 (pm_blkc [w] [0] [] 1 (by decide +kernel) rfl rfl rfl rfl) rfl rfl (Nat.le_of_ble_eq_true rfl) (Nat.le_of_ble_eq_true rfl) (Nat.le_of_ble_eq_true rfl) (Nat.le_of_ble_eq_true rfl) (Nat.le_of_ble_eq_true rfl) (fun v9 w2_14 R_12 => ?_)
    obtain ⟨w9, rfl, rfl, hRX2_15⟩ := R_12
    refine ww_perm (pm_blkj [w2_14] [] [0] 1 (by decide +kernel) rfl rfl rfl rfl) ?_
    show WW κ 10 813 ((w2_14)) 175 [(3, .int (nI (lwN (v >>> ((nI 4) &&& 31)) 13))), (0, .ref h), (1, .int v), (2, .int x)] [.int ((o_deed X (nI (lwN (v >>> ((nI 4) &&& 31)) 13)) (nI (lwN x 4)) (nI (lwN (x >>> ((nI 2) &&& 31)) 4)) (dbB x) (nI (lwN (x >>> ((nI 13) &&& 31)) 200))).1)]
    exact w_iret (ty := .int) C E dL_act_175 rfl rfl (Nat.le_refl _) (Nat.le_refl _) ⟨_, rfl, rfl, (by first | assumption | rfl | omega)⟩
set_option maxHeartbeats 4000000 in
set_option maxRecDepth 100000 in
theorem act_4 (l : Launch) (G : GG) (h : Nat) (w : va_W) (X : SX) (v : Int32) (x : Int32) (hRX : RX G h w X) (hv : v &&& nI 15 = nI 4) : MT l G yL_act cL_act 4 (some .int) 62 10 813 [.ref h, .int v, .int x] ((w)) (fun v9 ws9 => ∃ (w2 : va_W), v9 = some (.int ((o_deed X (nI (lwN (v >>> (nI 4 &&& 31)) 13)) (nI (lwN x 4)) (nI (lwN (x >>> (nI 2 &&& 31)) 4)) (dbB x) (nI (lwN (x >>> (nI 13 &&& 31)) 200))).1)) ∧ ws9 = ((w2)) ∧ RX G h w2 (o_deed X (nI (lwN (v >>> (nI 4 &&& 31)) 13)) (nI (lwN x 4)) (nI (lwN (x >>> (nI 2 &&& 31)) 4)) (dbB x) (nI (lwN (x >>> (nI 13 &&& 31)) 200))).2) := by
  refine MT.of RL [(0, .ref h), (1, .int v), (2, .int x)] (by decide +kernel) rfl rfl (Nat.le_of_ble_eq_true rfl) (fun κ C E hl9 hG9 hnm9 => ?_)
  subst hl9; subst hG9
  have hsb9 := sbB_lt x
  refine w_iload_n (nx := 1) C 1 dL_act_0 rfl rfl rfl ?_
  refine w_iconst (nx := 2) C (nI 4) dL_act_1 rfl (by decide) ?_
  refine w_ishr (nx := 3) C (v >>> ((nI 4) &&& 31)) dL_act_2 rfl rfl ?_
  refine w_bipush (nx := 5) C (nI 13) dL_act_3 rfl (by decide) ?_
  refine w_callS (nx := 8) (wr := ((w))) (rest := []) C ms_L_low (c_L_low _ _ (v >>> ((nI 4) &&& 31)) 13 (by first | assumption | omega) (by first | assumption | omega)) dL_act_5 rfl wl_L_29 rfl (pm_blkc [w] [] [0] 1 (by decide +kernel) rfl rfl rfl rfl) rfl rfl (Nat.le_of_ble_eq_true rfl) (Nat.le_of_ble_eq_true rfl) (Nat.le_of_ble_eq_true rfl) (Nat.zero_le _) (Nat.zero_le _) (fun v9 w9 R_1 => ?_)
  obtain ⟨rfl, rfl⟩ := R_1
  show WW κ 0 0 ((w)) 8 [(0, .ref h), (1, .int v), (2, .int x)] [.int (nI (lwN (v >>> ((nI 4) &&& 31)) 13))]
  refine w_istore_n (nx := 9) (lo2 := [(3, .int (nI (lwN (v >>> ((nI 4) &&& 31)) 13))), (0, .ref h), (1, .int v), (2, .int x)]) C dL_act_8 rfl rfl (by decide) rfl ?_
  refine w_iload_n (nx := 10) C 2 dL_act_9 rfl rfl rfl ?_
  refine w_bipush (nx := 12) C (nI 15) dL_act_10 rfl (by decide) ?_
  refine w_iand (nx := 13) C (nI 4) dL_act_12 rfl hv ?_
  refine w_tableIn (nx := 127) C dL_act_13 (by decide) (by decide) rfl rfl ?_
  refine w_aload_n (nx := 128) C 1 dL_act_127 rfl rfl rfl ?_
  refine w_iload_n (nx := 129) C 0 dL_act_128 rfl rfl rfl ?_
  refine w_iload_n (nx := 130) C 3 dL_act_129 rfl rfl rfl ?_
  refine w_iconst (nx := 131) C (nI 4) dL_act_130 rfl (by decide) ?_
  refine w_callS (nx := 134) (wr := ((w))) (rest := [.int (nI (lwN (v >>> ((nI 4) &&& 31)) 13)), .ref h]) C ms_L_low (c_L_low _ _ x 4 (by first | assumption | omega) (by first | assumption | omega)) dL_act_131 rfl wl_L_29 rfl (pm_blkc [w] [] [0] 1 (by decide +kernel) rfl rfl rfl rfl) rfl rfl (Nat.le_of_ble_eq_true rfl) (Nat.le_of_ble_eq_true rfl) (Nat.le_of_ble_eq_true rfl) (Nat.zero_le _) (Nat.zero_le _) (fun v9 w9 R_2 => ?_)
  obtain ⟨rfl, rfl⟩ := R_2
  show WW κ 0 0 ((w)) 134 [(3, .int (nI (lwN (v >>> ((nI 4) &&& 31)) 13))), (0, .ref h), (1, .int v), (2, .int x)] [.int (nI (lwN x 4)), .int (nI (lwN (v >>> ((nI 4) &&& 31)) 13)), .ref h]
  refine w_iload_n (nx := 135) C 3 dL_act_134 rfl rfl rfl ?_
  refine w_iconst (nx := 136) C (nI 2) dL_act_135 rfl (by decide) ?_
  refine w_ishr (nx := 137) C (x >>> ((nI 2) &&& 31)) dL_act_136 rfl rfl ?_
  refine w_iconst (nx := 138) C (nI 4) dL_act_137 rfl (by decide) ?_
  refine w_callS (nx := 141) (wr := ((w))) (rest := [.int (nI (lwN x 4)), .int (nI (lwN (v >>> ((nI 4) &&& 31)) 13)), .ref h]) C ms_L_low (c_L_low _ _ (x >>> ((nI 2) &&& 31)) 4 (by first | assumption | omega) (by first | assumption | omega)) dL_act_138 rfl wl_L_29 rfl (pm_blkc [w] [] [0] 1 (by decide +kernel) rfl rfl rfl rfl) rfl rfl (Nat.le_of_ble_eq_true rfl) (Nat.le_of_ble_eq_true rfl) (Nat.le_of_ble_eq_true rfl) (Nat.zero_le _) (Nat.zero_le _) (fun v9 w9 R_3 => ?_)
  obtain ⟨rfl, rfl⟩ := R_3
  show WW κ 0 0 ((w)) 141 [(3, .int (nI (lwN (v >>> ((nI 4) &&& 31)) 13))), (0, .ref h), (1, .int v), (2, .int x)] [.int (nI (lwN (x >>> ((nI 2) &&& 31)) 4)), .int (nI (lwN x 4)), .int (nI (lwN (v >>> ((nI 4) &&& 31)) 13)), .ref h]
  refine w_iload_n (nx := 142) C 3 dL_act_141 rfl rfl rfl ?_
  refine w_iconst (nx := 143) C (nI 4) dL_act_142 rfl (by decide) ?_
  refine w_ishr (nx := 144) C (x >>> ((nI 4) &&& 31)) dL_act_143 rfl rfl ?_
  refine w_iconst (nx := 145) C (nI 3) dL_act_144 rfl (by decide) ?_
  refine w_iand (nx := 146) C ((x >>> ((nI 4) &&& 31)) &&& (nI 3)) dL_act_145 rfl rfl ?_
  refine w_if_ne (tg := 161) (nx := 149) C dL_act_146 rfl rfl (fun h_4 => ?_) (fun h_4 => ?_)
  · have hb9 := h_4
    refine w_iconst (nx := 162) C (nI 0) dL_act_161 rfl (by decide) ?_
    refine w_top (dbB x) ((if_neg hb9).symm) ?_
    refine w_iload_n (nx := 163) C 3 dL_act_162 rfl rfl rfl ?_
    refine w_bipush (nx := 165) C (nI 13) dL_act_163 rfl (by decide) ?_
    refine w_ishr (nx := 166) C (x >>> ((nI 13) &&& 31)) dL_act_165 rfl rfl ?_
    refine w_sipush (nx := 169) C (nI 200) dL_act_166 rfl (by decide) ?_
    refine w_callS (nx := 172) (wr := ((w))) (rest := [.int (dbB x), .int (nI (lwN (x >>> ((nI 2) &&& 31)) 4)), .int (nI (lwN x 4)), .int (nI (lwN (v >>> ((nI 4) &&& 31)) 13)), .ref h]) C ms_L_low (c_L_low _ _ (x >>> ((nI 13) &&& 31)) 200 (by first | assumption | omega) (by first | assumption | omega)) dL_act_169 rfl wl_L_29 rfl (pm_blkc [w] [] [0] 1 (by decide +kernel) rfl rfl rfl rfl) rfl rfl (Nat.le_of_ble_eq_true rfl) (Nat.le_of_ble_eq_true rfl) (Nat.le_of_ble_eq_true rfl) (Nat.zero_le _) (Nat.zero_le _) (fun v9 w9 R_5 => ?_)
    obtain ⟨rfl, rfl⟩ := R_5
    show WW κ 0 0 ((w)) 172 [(3, .int (nI (lwN (v >>> ((nI 4) &&& 31)) 13))), (0, .ref h), (1, .int v), (2, .int x)] [.int (nI (lwN (x >>> ((nI 13) &&& 31)) 200)), .int (dbB x), .int (nI (lwN (x >>> ((nI 2) &&& 31)) 4)), .int (nI (lwN x 4)), .int (nI (lwN (v >>> ((nI 4) &&& 31)) 13)), .ref h]
    obtain ⟨_, hv_7⟩ := RX_recv (G := kG κ) (h := h) (w := w) (X := X) (by assumption)
    refine w_callV (nx := 175) (wr := []) (rest := []) (ci := 8) C mi_X8_deed (c_X8_deed _ _ h w X (nI (lwN (v >>> ((nI 4) &&& 31)) 13)) (nI (lwN x 4)) (nI (lwN (x >>> ((nI 2) &&& 31)) 4)) (dbB x) (nI (lwN (x >>> ((nI 13) &&& 31)) 200)) (by first | assumption | omega)) 0 dL_act_172 rfl wl_L_41 rfl rfl hv_7 (pm_blkc [w] [0] [] 1 (by decide +kernel) rfl rfl rfl rfl) rfl rfl (Nat.le_of_ble_eq_true rfl) (Nat.le_of_ble_eq_true rfl) (Nat.le_of_ble_eq_true rfl) (Nat.le_of_ble_eq_true rfl) (Nat.le_of_ble_eq_true rfl) (fun v9 w2_8 R_6 => ?_)
    obtain ⟨w9, rfl, rfl, hRX2_9⟩ := R_6
    refine ww_perm (pm_blkj [w2_8] [] [0] 1 (by decide +kernel) rfl rfl rfl rfl) ?_
    show WW κ 10 813 ((w2_8)) 175 [(3, .int (nI (lwN (v >>> ((nI 4) &&& 31)) 13))), (0, .ref h), (1, .int v), (2, .int x)] [.int ((o_deed X (nI (lwN (v >>> ((nI 4) &&& 31)) 13)) (nI (lwN x 4)) (nI (lwN (x >>> ((nI 2) &&& 31)) 4)) (dbB x) (nI (lwN (x >>> ((nI 13) &&& 31)) 200))).1)]
    exact w_iret (ty := .int) C E dL_act_175 rfl rfl (Nat.le_refl _) (Nat.le_refl _) ⟨_, rfl, rfl, (by first | assumption | rfl | omega)⟩
  · have hb9 := h_4
    refine w_iload_n (nx := 150) C 3 dL_act_149 rfl rfl rfl ?_
    refine w_bipush (nx := 152) C (nI 6) dL_act_150 rfl (by decide) ?_
    refine w_ishr (nx := 153) C (x >>> ((nI 6) &&& 31)) dL_act_152 rfl rfl ?_
    refine w_bipush (nx := 155) C (nI 101) dL_act_153 rfl (by decide) ?_
    refine w_callS (nx := 158) (wr := ((w))) (rest := [.int (nI (lwN (x >>> ((nI 2) &&& 31)) 4)), .int (nI (lwN x 4)), .int (nI (lwN (v >>> ((nI 4) &&& 31)) 13)), .ref h]) C ms_L_low (c_L_low _ _ (x >>> ((nI 6) &&& 31)) 101 (by first | assumption | omega) (by first | assumption | omega)) dL_act_155 rfl wl_L_29 rfl (pm_blkc [w] [] [0] 1 (by decide +kernel) rfl rfl rfl rfl) rfl rfl (Nat.le_of_ble_eq_true rfl) (Nat.le_of_ble_eq_true rfl) (Nat.le_of_ble_eq_true rfl) (Nat.zero_le _) (Nat.zero_le _) (fun v9 w9 R_10 => ?_)
    obtain ⟨rfl, rfl⟩ := R_10
    show WW κ 0 0 ((w)) 158 [(3, .int (nI (lwN (v >>> ((nI 4) &&& 31)) 13))), (0, .ref h), (1, .int v), (2, .int x)] [.int (nI (lwN (x >>> ((nI 6) &&& 31)) 101)), .int (nI (lwN (x >>> ((nI 2) &&& 31)) 4)), .int (nI (lwN x 4)), .int (nI (lwN (v >>> ((nI 4) &&& 31)) 13)), .ref h]
    refine w_goto (nx := 162) C dL_act_158 rfl ?_
    refine w_top (dbB x) ((if_pos hb9).symm) ?_
    refine w_iload_n (nx := 163) C 3 dL_act_162 rfl rfl rfl ?_
    refine w_bipush (nx := 165) C (nI 13) dL_act_163 rfl (by decide) ?_
    refine w_ishr (nx := 166) C (x >>> ((nI 13) &&& 31)) dL_act_165 rfl rfl ?_
    refine w_sipush (nx := 169) C (nI 200) dL_act_166 rfl (by decide) ?_
    refine w_callS (nx := 172) (wr := ((w))) (rest := [.int (dbB x), .int (nI (lwN (x >>> ((nI 2) &&& 31)) 4)), .int (nI (lwN x 4)), .int (nI (lwN (v >>> ((nI 4) &&& 31)) 13)), .ref h]) C ms_L_low (c_L_low _ _ (x >>> ((nI 13) &&& 31)) 200 (by first | assumption | omega) (by first | assumption | omega)) dL_act_169 rfl wl_L_29 rfl (pm_blkc [w] [] [0] 1 (by decide +kernel) rfl rfl rfl rfl) rfl rfl (Nat.le_of_ble_eq_true rfl) (Nat.le_of_ble_eq_true rfl) (Nat.le_of_ble_eq_true rfl) (Nat.zero_le _) (Nat.zero_le _) (fun v9 w9 R_11 => ?_)
    obtain ⟨rfl, rfl⟩ := R_11
    show WW κ 0 0 ((w)) 172 [(3, .int (nI (lwN (v >>> ((nI 4) &&& 31)) 13))), (0, .ref h), (1, .int v), (2, .int x)] [.int (nI (lwN (x >>> ((nI 13) &&& 31)) 200)), .int (dbB x), .int (nI (lwN (x >>> ((nI 2) &&& 31)) 4)), .int (nI (lwN x 4)), .int (nI (lwN (v >>> ((nI 4) &&& 31)) 13)), .ref h]
    obtain ⟨_, hv_13⟩ := RX_recv (G := kG κ) (h := h) (w := w) (X := X) (by assumption)
    refine w_callV (nx := 175) (wr := []) (rest := []) (ci := 8) C mi_X8_deed (c_X8_deed _ _ h w X (nI (lwN (v >>> ((nI 4) &&& 31)) 13)) (nI (lwN x 4)) (nI (lwN (x >>> ((nI 2) &&& 31)) 4)) (dbB x) (nI (lwN (x >>> ((nI 13) &&& 31)) 200)) (by first | assumption | omega)) 0 dL_act_172 rfl wl_L_41 rfl rfl hv_13 (pm_blkc [w] [0] [] 1 (by decide +kernel) rfl rfl rfl rfl) rfl rfl (Nat.le_of_ble_eq_true rfl) (Nat.le_of_ble_eq_true rfl) (Nat.le_of_ble_eq_true rfl) (Nat.le_of_ble_eq_true rfl) (Nat.le_of_ble_eq_true rfl) (fun v9 w2_14 R_12 => ?_)
    obtain ⟨w9, rfl, rfl, hRX2_15⟩ := R_12
    refine ww_perm (pm_blkj [w2_14] [] [0] 1 (by decide +kernel) rfl rfl rfl rfl) ?_
    show WW κ 10 813 ((w2_14)) 175 [(3, .int (nI (lwN (v >>> ((nI 4) &&& 31)) 13))), (0, .ref h), (1, .int v), (2, .int x)] [.int ((o_deed X (nI (lwN (v >>> ((nI 4) &&& 31)) 13)) (nI (lwN x 4)) (nI (lwN (x >>> ((nI 2) &&& 31)) 4)) (dbB x) (nI (lwN (x >>> ((nI 13) &&& 31)) 200))).1)]
    exact w_iret (ty := .int) C E dL_act_175 rfl rfl (Nat.le_refl _) (Nat.le_refl _) ⟨_, rfl, rfl, (by first | assumption | rfl | omega)⟩
set_option maxHeartbeats 4000000 in
set_option maxRecDepth 100000 in
theorem act_5 (l : Launch) (G : GG) (h : Nat) (w : va_W) (X : SX) (v : Int32) (x : Int32) (hRX : RX G h w X) (hv : v &&& nI 15 = nI 5) : MT l G yL_act cL_act 4 (some .int) 62 10 813 [.ref h, .int v, .int x] ((w)) (fun v9 ws9 => ∃ (w2 : va_W), v9 = some (.int ((o_dropTrigger X (nI (lwN (v >>> (nI 4 &&& 31)) 13))).1)) ∧ ws9 = ((w2)) ∧ RX G h w2 (o_dropTrigger X (nI (lwN (v >>> (nI 4 &&& 31)) 13))).2) := by
  refine MT.of RL [(0, .ref h), (1, .int v), (2, .int x)] (by decide +kernel) rfl rfl (Nat.le_of_ble_eq_true rfl) (fun κ C E hl9 hG9 hnm9 => ?_)
  subst hl9; subst hG9
  have hsb9 := sbB_lt x
  refine w_iload_n (nx := 1) C 1 dL_act_0 rfl rfl rfl ?_
  refine w_iconst (nx := 2) C (nI 4) dL_act_1 rfl (by decide) ?_
  refine w_ishr (nx := 3) C (v >>> ((nI 4) &&& 31)) dL_act_2 rfl rfl ?_
  refine w_bipush (nx := 5) C (nI 13) dL_act_3 rfl (by decide) ?_
  refine w_callS (nx := 8) (wr := ((w))) (rest := []) C ms_L_low (c_L_low _ _ (v >>> ((nI 4) &&& 31)) 13 (by first | assumption | omega) (by first | assumption | omega)) dL_act_5 rfl wl_L_29 rfl (pm_blkc [w] [] [0] 1 (by decide +kernel) rfl rfl rfl rfl) rfl rfl (Nat.le_of_ble_eq_true rfl) (Nat.le_of_ble_eq_true rfl) (Nat.le_of_ble_eq_true rfl) (Nat.zero_le _) (Nat.zero_le _) (fun v9 w9 R_1 => ?_)
  obtain ⟨rfl, rfl⟩ := R_1
  show WW κ 0 0 ((w)) 8 [(0, .ref h), (1, .int v), (2, .int x)] [.int (nI (lwN (v >>> ((nI 4) &&& 31)) 13))]
  refine w_istore_n (nx := 9) (lo2 := [(3, .int (nI (lwN (v >>> ((nI 4) &&& 31)) 13))), (0, .ref h), (1, .int v), (2, .int x)]) C dL_act_8 rfl rfl (by decide) rfl ?_
  refine w_iload_n (nx := 10) C 2 dL_act_9 rfl rfl rfl ?_
  refine w_bipush (nx := 12) C (nI 15) dL_act_10 rfl (by decide) ?_
  refine w_iand (nx := 13) C (nI 5) dL_act_12 rfl hv ?_
  refine w_tableIn (nx := 176) C dL_act_13 (by decide) (by decide) rfl rfl ?_
  refine w_aload_n (nx := 177) C 1 dL_act_176 rfl rfl rfl ?_
  refine w_iload_n (nx := 178) C 0 dL_act_177 rfl rfl rfl ?_
  obtain ⟨_, hv_3⟩ := RX_recv (G := kG κ) (h := h) (w := w) (X := X) (by assumption)
  refine w_callV (nx := 181) (wr := []) (rest := []) (ci := 8) C mi_X8_dropTrigger (c_X8_dropTrigger _ _ h w X (nI (lwN (v >>> ((nI 4) &&& 31)) 13)) (by first | assumption | omega)) 0 dL_act_178 rfl wl_L_45 rfl rfl hv_3 (pm_blkc [w] [0] [] 1 (by decide +kernel) rfl rfl rfl rfl) rfl rfl (Nat.le_of_ble_eq_true rfl) (Nat.le_of_ble_eq_true rfl) (Nat.le_of_ble_eq_true rfl) (Nat.le_of_ble_eq_true rfl) (Nat.le_of_ble_eq_true rfl) (fun v9 w2_4 R_2 => ?_)
  obtain ⟨w9, rfl, rfl, hRX2_5⟩ := R_2
  refine ww_perm (pm_blkj [w2_4] [] [0] 1 (by decide +kernel) rfl rfl rfl rfl) ?_
  show WW κ 10 813 ((w2_4)) 181 [(3, .int (nI (lwN (v >>> ((nI 4) &&& 31)) 13))), (0, .ref h), (1, .int v), (2, .int x)] [.int ((o_dropTrigger X (nI (lwN (v >>> ((nI 4) &&& 31)) 13))).1)]
  exact w_iret (ty := .int) C E dL_act_181 rfl rfl (Nat.le_refl _) (Nat.le_refl _) ⟨_, rfl, rfl, (by first | assumption | rfl | omega)⟩
set_option maxHeartbeats 4000000 in
set_option maxRecDepth 100000 in
theorem act_6 (l : Launch) (G : GG) (h : Nat) (w : va_W) (X : SX) (v : Int32) (x : Int32) (hRX : RX G h w X) (hv : v &&& nI 15 = nI 6) : MT l G yL_act cL_act 4 (some .int) 62 10 813 [.ref h, .int v, .int x] ((w)) (fun v9 ws9 => ∃ (w2 : va_W), v9 = some (.int ((o_restore X (x &&& nI 1)).1)) ∧ ws9 = ((w2)) ∧ RX G h w2 (o_restore X (x &&& nI 1)).2) := by
  refine MT.of RL [(0, .ref h), (1, .int v), (2, .int x)] (by decide +kernel) rfl rfl (Nat.le_of_ble_eq_true rfl) (fun κ C E hl9 hG9 hnm9 => ?_)
  subst hl9; subst hG9
  have hsb9 := sbB_lt x
  refine w_iload_n (nx := 1) C 1 dL_act_0 rfl rfl rfl ?_
  refine w_iconst (nx := 2) C (nI 4) dL_act_1 rfl (by decide) ?_
  refine w_ishr (nx := 3) C (v >>> ((nI 4) &&& 31)) dL_act_2 rfl rfl ?_
  refine w_bipush (nx := 5) C (nI 13) dL_act_3 rfl (by decide) ?_
  refine w_callS (nx := 8) (wr := ((w))) (rest := []) C ms_L_low (c_L_low _ _ (v >>> ((nI 4) &&& 31)) 13 (by first | assumption | omega) (by first | assumption | omega)) dL_act_5 rfl wl_L_29 rfl (pm_blkc [w] [] [0] 1 (by decide +kernel) rfl rfl rfl rfl) rfl rfl (Nat.le_of_ble_eq_true rfl) (Nat.le_of_ble_eq_true rfl) (Nat.le_of_ble_eq_true rfl) (Nat.zero_le _) (Nat.zero_le _) (fun v9 w9 R_1 => ?_)
  obtain ⟨rfl, rfl⟩ := R_1
  show WW κ 0 0 ((w)) 8 [(0, .ref h), (1, .int v), (2, .int x)] [.int (nI (lwN (v >>> ((nI 4) &&& 31)) 13))]
  refine w_istore_n (nx := 9) (lo2 := [(3, .int (nI (lwN (v >>> ((nI 4) &&& 31)) 13))), (0, .ref h), (1, .int v), (2, .int x)]) C dL_act_8 rfl rfl (by decide) rfl ?_
  refine w_iload_n (nx := 10) C 2 dL_act_9 rfl rfl rfl ?_
  refine w_bipush (nx := 12) C (nI 15) dL_act_10 rfl (by decide) ?_
  refine w_iand (nx := 13) C (nI 6) dL_act_12 rfl hv ?_
  refine w_tableIn (nx := 182) C dL_act_13 (by decide) (by decide) rfl rfl ?_
  refine w_aload_n (nx := 183) C 1 dL_act_182 rfl rfl rfl ?_
  refine w_iload_n (nx := 184) C 3 dL_act_183 rfl rfl rfl ?_
  refine w_iconst (nx := 185) C (nI 1) dL_act_184 rfl (by decide) ?_
  refine w_iand (nx := 186) C (x &&& (nI 1)) dL_act_185 rfl rfl ?_
  obtain ⟨_, hv_3⟩ := RX_recv (G := kG κ) (h := h) (w := w) (X := X) (by assumption)
  refine w_callV (nx := 189) (wr := []) (rest := []) (ci := 8) C mi_X8_restore (c_X8_restore _ _ h w X (x &&& (nI 1)) (by first | assumption | omega)) 0 dL_act_186 rfl wl_L_48 rfl rfl hv_3 (pm_blkc [w] [0] [] 1 (by decide +kernel) rfl rfl rfl rfl) rfl rfl (Nat.le_of_ble_eq_true rfl) (Nat.le_of_ble_eq_true rfl) (Nat.le_of_ble_eq_true rfl) (Nat.le_of_ble_eq_true rfl) (Nat.le_of_ble_eq_true rfl) (fun v9 w2_4 R_2 => ?_)
  obtain ⟨w9, rfl, rfl, hRX2_5⟩ := R_2
  refine ww_perm (pm_blkj [w2_4] [] [0] 1 (by decide +kernel) rfl rfl rfl rfl) ?_
  show WW κ 10 813 ((w2_4)) 189 [(3, .int (nI (lwN (v >>> ((nI 4) &&& 31)) 13))), (0, .ref h), (1, .int v), (2, .int x)] [.int ((o_restore X (x &&& (nI 1))).1)]
  exact w_iret (ty := .int) C E dL_act_189 rfl rfl (Nat.le_refl _) (Nat.le_refl _) ⟨_, rfl, rfl, (by first | assumption | rfl | omega)⟩
set_option maxHeartbeats 4000000 in
set_option maxRecDepth 100000 in
theorem act_s (l : Launch) (G : GG) (h : Nat) (w : va_W) (X : SX) (v : Int32) (x : Int32) (hRX : RX G h w X) (hno : ¬ wi (v &&& nI 15) 7) : MT l G yL_act cL_act 4 (some .int) 62 10 813 [.ref h, .int v, .int x] ((w)) (fun v9 ws9 => ∃ (w2 : va_W), v9 = some (.int ((o_state X (nI (lwN x 3)) (nI (lwN (x >>> (nI 2 &&& 31)) 4)) (nI (lwN (x >>> (nI 4 &&& 31)) (sbB x))) (nI (lwN (x >>> (nI 11 &&& 31)) 200))).1)) ∧ ws9 = ((w2)) ∧ RX G h w2 (o_state X (nI (lwN x 3)) (nI (lwN (x >>> (nI 2 &&& 31)) 4)) (nI (lwN (x >>> (nI 4 &&& 31)) (sbB x))) (nI (lwN (x >>> (nI 11 &&& 31)) 200))).2) := by
  refine MT.of RL [(0, .ref h), (1, .int v), (2, .int x)] (by decide +kernel) rfl rfl (Nat.le_of_ble_eq_true rfl) (fun κ C E hl9 hG9 hnm9 => ?_)
  subst hl9; subst hG9
  have hsb9 := sbB_lt x
  refine w_iload_n (nx := 1) C 1 dL_act_0 rfl rfl rfl ?_
  refine w_iconst (nx := 2) C (nI 4) dL_act_1 rfl (by decide) ?_
  refine w_ishr (nx := 3) C (v >>> ((nI 4) &&& 31)) dL_act_2 rfl rfl ?_
  refine w_bipush (nx := 5) C (nI 13) dL_act_3 rfl (by decide) ?_
  refine w_callS (nx := 8) (wr := ((w))) (rest := []) C ms_L_low (c_L_low _ _ (v >>> ((nI 4) &&& 31)) 13 (by first | assumption | omega) (by first | assumption | omega)) dL_act_5 rfl wl_L_29 rfl (pm_blkc [w] [] [0] 1 (by decide +kernel) rfl rfl rfl rfl) rfl rfl (Nat.le_of_ble_eq_true rfl) (Nat.le_of_ble_eq_true rfl) (Nat.le_of_ble_eq_true rfl) (Nat.zero_le _) (Nat.zero_le _) (fun v9 w9 R_1 => ?_)
  obtain ⟨rfl, rfl⟩ := R_1
  show WW κ 0 0 ((w)) 8 [(0, .ref h), (1, .int v), (2, .int x)] [.int (nI (lwN (v >>> ((nI 4) &&& 31)) 13))]
  refine w_istore_n (nx := 9) (lo2 := [(3, .int (nI (lwN (v >>> ((nI 4) &&& 31)) 13))), (0, .ref h), (1, .int v), (2, .int x)]) C dL_act_8 rfl rfl (by decide) rfl ?_
  refine w_iload_n (nx := 10) C 2 dL_act_9 rfl rfl rfl ?_
  refine w_bipush (nx := 12) C (nI 15) dL_act_10 rfl (by decide) ?_
  refine w_iand (nx := 13) C (v &&& (nI 15)) dL_act_12 rfl rfl ?_
  refine w_tableOut (nx := 190) C dL_act_13 (sw_out (by decide) (by decide) hno) rfl ?_
  refine w_aload_n (nx := 191) C 1 dL_act_190 rfl rfl rfl ?_
  refine w_iload_n (nx := 192) C 3 dL_act_191 rfl rfl rfl ?_
  refine w_iconst (nx := 193) C (nI 3) dL_act_192 rfl (by decide) ?_
  refine w_callS (nx := 196) (wr := ((w))) (rest := [.ref h]) C ms_L_low (c_L_low _ _ x 3 (by first | assumption | omega) (by first | assumption | omega)) dL_act_193 rfl wl_L_29 rfl (pm_blkc [w] [] [0] 1 (by decide +kernel) rfl rfl rfl rfl) rfl rfl (Nat.le_of_ble_eq_true rfl) (Nat.le_of_ble_eq_true rfl) (Nat.le_of_ble_eq_true rfl) (Nat.zero_le _) (Nat.zero_le _) (fun v9 w9 R_2 => ?_)
  obtain ⟨rfl, rfl⟩ := R_2
  show WW κ 0 0 ((w)) 196 [(3, .int (nI (lwN (v >>> ((nI 4) &&& 31)) 13))), (0, .ref h), (1, .int v), (2, .int x)] [.int (nI (lwN x 3)), .ref h]
  refine w_iload_n (nx := 197) C 3 dL_act_196 rfl rfl rfl ?_
  refine w_iconst (nx := 198) C (nI 2) dL_act_197 rfl (by decide) ?_
  refine w_ishr (nx := 199) C (x >>> ((nI 2) &&& 31)) dL_act_198 rfl rfl ?_
  refine w_iconst (nx := 200) C (nI 4) dL_act_199 rfl (by decide) ?_
  refine w_callS (nx := 203) (wr := ((w))) (rest := [.int (nI (lwN x 3)), .ref h]) C ms_L_low (c_L_low _ _ (x >>> ((nI 2) &&& 31)) 4 (by first | assumption | omega) (by first | assumption | omega)) dL_act_200 rfl wl_L_29 rfl (pm_blkc [w] [] [0] 1 (by decide +kernel) rfl rfl rfl rfl) rfl rfl (Nat.le_of_ble_eq_true rfl) (Nat.le_of_ble_eq_true rfl) (Nat.le_of_ble_eq_true rfl) (Nat.zero_le _) (Nat.zero_le _) (fun v9 w9 R_3 => ?_)
  obtain ⟨rfl, rfl⟩ := R_3
  show WW κ 0 0 ((w)) 203 [(3, .int (nI (lwN (v >>> ((nI 4) &&& 31)) 13))), (0, .ref h), (1, .int v), (2, .int x)] [.int (nI (lwN (x >>> ((nI 2) &&& 31)) 4)), .int (nI (lwN x 3)), .ref h]
  refine w_iload_n (nx := 204) C 3 dL_act_203 rfl rfl rfl ?_
  refine w_iconst (nx := 205) C (nI 4) dL_act_204 rfl (by decide) ?_
  refine w_ishr (nx := 206) C (x >>> ((nI 4) &&& 31)) dL_act_205 rfl rfl ?_
  refine w_iload_n (nx := 207) C 3 dL_act_206 rfl rfl rfl ?_
  refine w_bipush (nx := 209) C (nI 20) dL_act_207 rfl (by decide) ?_
  refine w_ishr (nx := 210) C (x >>> ((nI 20) &&& 31)) dL_act_209 rfl rfl ?_
  refine w_bipush (nx := 212) C (nI 7) dL_act_210 rfl (by decide) ?_
  refine w_iand (nx := 213) C ((x >>> ((nI 20) &&& 31)) &&& (nI 7)) dL_act_212 rfl rfl ?_
  refine w_if_ne (tg := 221) (nx := 216) C dL_act_213 rfl rfl (fun h_4 => ?_) (fun h_4 => ?_)
  · have hb9 := h_4
    refine w_bipush (nx := 223) C (nI 13) dL_act_221 rfl (by decide) ?_
    refine w_top (nI (sbB x)) (congrArg nI ((if_neg hb9).symm)) ?_
    refine w_callS (nx := 226) (wr := ((w))) (rest := [.int (nI (lwN (x >>> ((nI 2) &&& 31)) 4)), .int (nI (lwN x 3)), .ref h]) C ms_L_low (c_L_low _ _ (x >>> ((nI 4) &&& 31)) (sbB x) (by first | assumption | omega) (by first | assumption | omega)) dL_act_223 rfl wl_L_29 rfl (pm_blkc [w] [] [0] 1 (by decide +kernel) rfl rfl rfl rfl) rfl rfl (Nat.le_of_ble_eq_true rfl) (Nat.le_of_ble_eq_true rfl) (Nat.le_of_ble_eq_true rfl) (Nat.zero_le _) (Nat.zero_le _) (fun v9 w9 R_5 => ?_)
    obtain ⟨rfl, rfl⟩ := R_5
    show WW κ 0 0 ((w)) 226 [(3, .int (nI (lwN (v >>> ((nI 4) &&& 31)) 13))), (0, .ref h), (1, .int v), (2, .int x)] [.int (nI (lwN (x >>> ((nI 4) &&& 31)) (sbB x))), .int (nI (lwN (x >>> ((nI 2) &&& 31)) 4)), .int (nI (lwN x 3)), .ref h]
    refine w_iload_n (nx := 227) C 3 dL_act_226 rfl rfl rfl ?_
    refine w_bipush (nx := 229) C (nI 11) dL_act_227 rfl (by decide) ?_
    refine w_ishr (nx := 230) C (x >>> ((nI 11) &&& 31)) dL_act_229 rfl rfl ?_
    refine w_sipush (nx := 233) C (nI 200) dL_act_230 rfl (by decide) ?_
    refine w_callS (nx := 236) (wr := ((w))) (rest := [.int (nI (lwN (x >>> ((nI 4) &&& 31)) (sbB x))), .int (nI (lwN (x >>> ((nI 2) &&& 31)) 4)), .int (nI (lwN x 3)), .ref h]) C ms_L_low (c_L_low _ _ (x >>> ((nI 11) &&& 31)) 200 (by first | assumption | omega) (by first | assumption | omega)) dL_act_233 rfl wl_L_29 rfl (pm_blkc [w] [] [0] 1 (by decide +kernel) rfl rfl rfl rfl) rfl rfl (Nat.le_of_ble_eq_true rfl) (Nat.le_of_ble_eq_true rfl) (Nat.le_of_ble_eq_true rfl) (Nat.zero_le _) (Nat.zero_le _) (fun v9 w9 R_6 => ?_)
    obtain ⟨rfl, rfl⟩ := R_6
    show WW κ 0 0 ((w)) 236 [(3, .int (nI (lwN (v >>> ((nI 4) &&& 31)) 13))), (0, .ref h), (1, .int v), (2, .int x)] [.int (nI (lwN (x >>> ((nI 11) &&& 31)) 200)), .int (nI (lwN (x >>> ((nI 4) &&& 31)) (sbB x))), .int (nI (lwN (x >>> ((nI 2) &&& 31)) 4)), .int (nI (lwN x 3)), .ref h]
    obtain ⟨_, hv_8⟩ := RX_recv (G := kG κ) (h := h) (w := w) (X := X) (by assumption)
    refine w_callV (nx := 239) (wr := []) (rest := []) (ci := 8) C mi_X8_state (c_X8_state _ _ h w X (nI (lwN x 3)) (nI (lwN (x >>> ((nI 2) &&& 31)) 4)) (nI (lwN (x >>> ((nI 4) &&& 31)) (sbB x))) (nI (lwN (x >>> ((nI 11) &&& 31)) 200)) (by first | assumption | omega)) 0 dL_act_236 rfl wl_L_51 rfl rfl hv_8 (pm_blkc [w] [0] [] 1 (by decide +kernel) rfl rfl rfl rfl) rfl rfl (Nat.le_of_ble_eq_true rfl) (Nat.le_of_ble_eq_true rfl) (Nat.le_of_ble_eq_true rfl) (Nat.le_of_ble_eq_true rfl) (Nat.le_of_ble_eq_true rfl) (fun v9 w2_9 R_7 => ?_)
    obtain ⟨w9, rfl, rfl, hRX2_10⟩ := R_7
    refine ww_perm (pm_blkj [w2_9] [] [0] 1 (by decide +kernel) rfl rfl rfl rfl) ?_
    show WW κ 10 813 ((w2_9)) 239 [(3, .int (nI (lwN (v >>> ((nI 4) &&& 31)) 13))), (0, .ref h), (1, .int v), (2, .int x)] [.int ((o_state X (nI (lwN x 3)) (nI (lwN (x >>> ((nI 2) &&& 31)) 4)) (nI (lwN (x >>> ((nI 4) &&& 31)) (sbB x))) (nI (lwN (x >>> ((nI 11) &&& 31)) 200))).1)]
    exact w_iret (ty := .int) C E dL_act_239 rfl rfl (Nat.le_refl _) (Nat.le_refl _) ⟨_, rfl, rfl, (by first | assumption | rfl | omega)⟩
  · have hb9 := h_4
    refine w_bipush (nx := 218) C (nI 101) dL_act_216 rfl (by decide) ?_
    refine w_goto (nx := 223) C dL_act_218 rfl ?_
    refine w_top (nI (sbB x)) (congrArg nI ((if_pos hb9).symm)) ?_
    refine w_callS (nx := 226) (wr := ((w))) (rest := [.int (nI (lwN (x >>> ((nI 2) &&& 31)) 4)), .int (nI (lwN x 3)), .ref h]) C ms_L_low (c_L_low _ _ (x >>> ((nI 4) &&& 31)) (sbB x) (by first | assumption | omega) (by first | assumption | omega)) dL_act_223 rfl wl_L_29 rfl (pm_blkc [w] [] [0] 1 (by decide +kernel) rfl rfl rfl rfl) rfl rfl (Nat.le_of_ble_eq_true rfl) (Nat.le_of_ble_eq_true rfl) (Nat.le_of_ble_eq_true rfl) (Nat.zero_le _) (Nat.zero_le _) (fun v9 w9 R_11 => ?_)
    obtain ⟨rfl, rfl⟩ := R_11
    show WW κ 0 0 ((w)) 226 [(3, .int (nI (lwN (v >>> ((nI 4) &&& 31)) 13))), (0, .ref h), (1, .int v), (2, .int x)] [.int (nI (lwN (x >>> ((nI 4) &&& 31)) (sbB x))), .int (nI (lwN (x >>> ((nI 2) &&& 31)) 4)), .int (nI (lwN x 3)), .ref h]
    refine w_iload_n (nx := 227) C 3 dL_act_226 rfl rfl rfl ?_
    refine w_bipush (nx := 229) C (nI 11) dL_act_227 rfl (by decide) ?_
    refine w_ishr (nx := 230) C (x >>> ((nI 11) &&& 31)) dL_act_229 rfl rfl ?_
    refine w_sipush (nx := 233) C (nI 200) dL_act_230 rfl (by decide) ?_
    refine w_callS (nx := 236) (wr := ((w))) (rest := [.int (nI (lwN (x >>> ((nI 4) &&& 31)) (sbB x))), .int (nI (lwN (x >>> ((nI 2) &&& 31)) 4)), .int (nI (lwN x 3)), .ref h]) C ms_L_low (c_L_low _ _ (x >>> ((nI 11) &&& 31)) 200 (by first | assumption | omega) (by first | assumption | omega)) dL_act_233 rfl wl_L_29 rfl (pm_blkc [w] [] [0] 1 (by decide +kernel) rfl rfl rfl rfl) rfl rfl (Nat.le_of_ble_eq_true rfl) (Nat.le_of_ble_eq_true rfl) (Nat.le_of_ble_eq_true rfl) (Nat.zero_le _) (Nat.zero_le _) (fun v9 w9 R_12 => ?_)
    obtain ⟨rfl, rfl⟩ := R_12
    show WW κ 0 0 ((w)) 236 [(3, .int (nI (lwN (v >>> ((nI 4) &&& 31)) 13))), (0, .ref h), (1, .int v), (2, .int x)] [.int (nI (lwN (x >>> ((nI 11) &&& 31)) 200)), .int (nI (lwN (x >>> ((nI 4) &&& 31)) (sbB x))), .int (nI (lwN (x >>> ((nI 2) &&& 31)) 4)), .int (nI (lwN x 3)), .ref h]
    obtain ⟨_, hv_14⟩ := RX_recv (G := kG κ) (h := h) (w := w) (X := X) (by assumption)
    refine w_callV (nx := 239) (wr := []) (rest := []) (ci := 8) C mi_X8_state (c_X8_state _ _ h w X (nI (lwN x 3)) (nI (lwN (x >>> ((nI 2) &&& 31)) 4)) (nI (lwN (x >>> ((nI 4) &&& 31)) (sbB x))) (nI (lwN (x >>> ((nI 11) &&& 31)) 200)) (by first | assumption | omega)) 0 dL_act_236 rfl wl_L_51 rfl rfl hv_14 (pm_blkc [w] [0] [] 1 (by decide +kernel) rfl rfl rfl rfl) rfl rfl (Nat.le_of_ble_eq_true rfl) (Nat.le_of_ble_eq_true rfl) (Nat.le_of_ble_eq_true rfl) (Nat.le_of_ble_eq_true rfl) (Nat.le_of_ble_eq_true rfl) (fun v9 w2_15 R_13 => ?_)
    obtain ⟨w9, rfl, rfl, hRX2_16⟩ := R_13
    refine ww_perm (pm_blkj [w2_15] [] [0] 1 (by decide +kernel) rfl rfl rfl rfl) ?_
    show WW κ 10 813 ((w2_15)) 239 [(3, .int (nI (lwN (v >>> ((nI 4) &&& 31)) 13))), (0, .ref h), (1, .int v), (2, .int x)] [.int ((o_state X (nI (lwN x 3)) (nI (lwN (x >>> ((nI 2) &&& 31)) 4)) (nI (lwN (x >>> ((nI 4) &&& 31)) (sbB x))) (nI (lwN (x >>> ((nI 11) &&& 31)) 200))).1)]
    exact w_iret (ty := .int) C E dL_act_239 rfl rfl (Nat.le_refl _) (Nat.le_refl _) ⟨_, rfl, rfl, (by first | assumption | rfl | omega)⟩
theorem act_all (v x : Int32) : ∃ F : SX → Int32 × SX, ACT v F ∧ ∀ (l : Launch) (G : GG) (h : Nat) (w : va_W) (X : SX) (hRX : RX G h w X), MT l G yL_act cL_act 4 (some .int) 62 10 813 [.ref h, .int v, .int x] ((w)) (fun v9 ws9 => ∃ (w2 : va_W), v9 = some (.int ((F X).1)) ∧ ws9 = ((w2)) ∧ RX G h w2 (F X).2) := by
  by_cases hno : wi (v &&& nI 15) 7
  · obtain ⟨j, hj, e⟩ := hno
    rcases (show j = 0 ∨ j = 1 ∨ j = 2 ∨ j = 3 ∨ j = 4 ∨ j = 5 ∨ j = 6 by omega) with rfl | rfl | rfl | rfl | rfl | rfl | rfl
    · exact ⟨fun X => o_set X (x &&& nI 1) (nI (lwN (x >>> (nI 1 &&& 31)) 10)), act_set _ _ (by rw [e]; decide), fun l G h w X hRX => act_0 l G h w X v x hRX e⟩
    · exact ⟨fun X => o_trigger X (nI (lwN x 5)) (nI (lwN (x >>> (nI 3 &&& 31)) 3)) (nI (lwN (x >>> (nI 5 &&& 31)) 3)) (tbB x), act_trigger _ _ _ _ (by rw [e]; decide), fun l G h w X hRX => act_1 l G h w X v x hRX e⟩
    · exact ⟨fun X => o_trigger X (nI (lwN x 5)) (nI (lwN (x >>> (nI 3 &&& 31)) 3)) (nI (lwN (x >>> (nI 5 &&& 31)) 3)) (tbB x), act_trigger _ _ _ _ (by rw [e]; decide), fun l G h w X hRX => act_2 l G h w X v x hRX e⟩
    · exact ⟨fun X => o_deed X (nI (lwN (v >>> (nI 4 &&& 31)) 13)) (nI (lwN x 4)) (nI (lwN (x >>> (nI 2 &&& 31)) 4)) (dbB x) (nI (lwN (x >>> (nI 13 &&& 31)) 200)), act_deed _ _ _ _ _ (by rw [e]; decide), fun l G h w X hRX => act_3 l G h w X v x hRX e⟩
    · exact ⟨fun X => o_deed X (nI (lwN (v >>> (nI 4 &&& 31)) 13)) (nI (lwN x 4)) (nI (lwN (x >>> (nI 2 &&& 31)) 4)) (dbB x) (nI (lwN (x >>> (nI 13 &&& 31)) 200)), act_deed _ _ _ _ _ (by rw [e]; decide), fun l G h w X hRX => act_4 l G h w X v x hRX e⟩
    · exact ⟨fun X => o_dropTrigger X (nI (lwN (v >>> (nI 4 &&& 31)) 13)), act_drop _ (by rw [e]; decide), fun l G h w X hRX => act_5 l G h w X v x hRX e⟩
    · exact ⟨fun X => o_restore X (x &&& nI 1), act_restore _, fun l G h w X hRX => act_6 l G h w X v x hRX e⟩
  · exact ⟨fun X => o_state X (nI (lwN x 3)) (nI (lwN (x >>> (nI 2 &&& 31)) 4)) (nI (lwN (x >>> (nI 4 &&& 31)) (sbB x))) (nI (lwN (x >>> (nI 11 &&& 31)) 200)), act_state _ _ _ _ (fun e6 => hno ⟨6, by decide, e6⟩), fun l G h w X hRX => act_s l G h w X v x hRX hno⟩
