theorem wo_6 : ∀ i, i < 12 → (nI i = -6 ↔ i = 99) := by decide +kernel
theorem uL_and255 (q : Int64) : uL (q &&& 255) = uL q % 256 := by
  show (q &&& 255).toBitVec.toNat = q.toBitVec.toNat % 256
  rw [Int64.toBitVec_and, BitVec.toNat_and]
  show q.toBitVec.toNat &&& 255 = _
  rw [show (255 : Nat) = 2 ^ 8 - 1 by decide, Nat.and_two_pow_sub_one_eq_mod]
theorem byt_div {u j : Nat} (h : ¬ byt u j = 0) : ¬ u / 256 ^ j = 0 := fun e => h (by show u / 256 ^ j % 256 = 0; rw [e])
theorem sgn_upto {u : Nat} : ∀ j, j ≤ 8 → (∀ z, z < j → 33 ≤ byt u z ∧ byt u z ≤ 126) → sgnN u 8 0 = sgnN u (8 - j) j
  | 0, _, _ => rfl
  | j + 1, hj, h => by
    have h1 := h j (Nat.lt_succ_self j)
    rw [sgn_upto j (by omega) (fun z hz => h z (by omega)), sgn_go (by omega) (byt_div (by omega)) (by omega), show 8 - j - 1 = 8 - (j + 1) by omega]
theorem sgn_bad {u : Nat} : ∀ j, j ≤ 8 → (∀ z, z < j → ¬ byt u z = 0) → ¬ (∀ z, z < j → 33 ≤ byt u z ∧ byt u z ≤ 126) → sgnN u 8 0 = 0
  | 0, _, _, h => absurd (fun z hz => absurd hz (Nat.not_lt_zero _)) h
  | j + 1, hj, h0, h => by
    by_cases e : ∀ z, z < j → 33 ≤ byt u z ∧ byt u z ≤ 126
    · have h1 : byt u j < 33 ∨ 126 < byt u j := by
        refine Classical.byContradiction fun h2 => h fun z hz => ?_
        by_cases e2 : z = j
        · subst e2; omega
        · exact e z (by omega)
      rw [sgn_upto j (by omega) e]
      exact sgn_0 (by omega) (byt_div (h0 j (Nat.lt_succ_self j))) h1
    · exact sgn_bad j (by omega) (fun z hz => h0 z (by omega)) e
theorem uL_lt (c : Int64) : uL c < 256 ^ 8 := c.toBitVec.isLt
theorem sgn_end {u j : Nat} (hu : u < 256 ^ 8) (hj : j ≤ 8) (h : ∀ z, z < j → 33 ≤ byt u z ∧ byt u z ≤ 126) (he : j = 8 ∨ byt u j = 0) (h1 : ¬ u / 256 ^ j = 0) : sgnN u 8 0 = 0 := by
  have h8 : ¬ j = 8 := fun e => by subst e; exact h1 (Nat.div_eq_of_lt hu)
  rw [sgn_upto j hj h]
  exact sgn_0 (by omega) h1 (by omega)
theorem sgn_ok {u j : Nat} (hj : j ≤ 8) (h : ∀ z, z < j → 33 ≤ byt u z ∧ byt u z ≤ 126) (h1 : u / 256 ^ j = 0) : sgnN u 8 0 = j := by
  rw [sgn_upto j hj h]
  exact sgn_j (Or.inr h1)
theorem tv_5 {r : RS} : tval r 5 = ftb r := rfl
theorem tv_6 {r : RS} : tval r 6 = fky r := rfl
set_option maxHeartbeats 4000000 in
set_option maxRecDepth 100000 in
theorem c_X9_state (l : Launch) (G : GG) (h : Nat) (w : va_W) (X : SX) (qk : Int32) (qt : Int32) (qy : Int32) (qn : Int32) (hRX : RMX G h w X) : MT l G yX9_state cX9_state 6 (some .int) 11 0 0 [.ref h, .int qk, .int qt, .int qy, .int qn] ((w)) (fun v9 ws9 => ∃ (w2 : va_W), v9 = some (.int ((o_state X qk qt qy qn).1)) ∧ ws9 = ((w2)) ∧ RMX G h w2 (o_state X qk qt qy qn).2) := by
  refine RMX_elim hRX (fun a v f1 f2 f3 f5 f6 f7 f17 f21 f22 f23 f24 f25 f26 f27 f28 f29 f31 f32 f33 f34 f35 f36 f37 f38 f41 hw9 hh hO hS hU hUn hSl hPd h18 => ?_)
  subst hw9
  subst hh
  refine MT.of RX9 [(0, .ref (a 0)), (1, .int qk), (2, .int qt), (3, .int qy), (4, .int qn)] (by decide +kernel) rfl rfl (Nat.le_of_ble_eq_true rfl) (fun κ C E hl9 hG9 hnm9 => ?_)
  subst hl9; subst hG9
  have hn12 := hO.1.2.2.2.1.1
  have hj100 := hO.1.2.2.2.2
  have hz6 := hO.2.1.1
  have hp60 := hO.2.2.2.1
  have hd8 := hO.1.1
  have hl1 := hO.1.2.1
  have hzT := hO.1.2.2.1
  refine w_aload_n (nx := 1) C 0 dX9_state_0 rfl rfl rfl ?_
  refine w_iconst (nx := 2) C (nI 0) dX9_state_1 rfl (by decide) ?_
  refine w_putM (nx := 5) (ws2 := [(a 0, mO a (upd v 0 (nI 0))), (a 1, aI (kG κ) 800 f1), (a 2, aI (kG κ) 800 f2), (a 3, aI (kG κ) 4800 f3), (a 5, aI (kG κ) 1600 f5), (a 6, aZ (kG κ) 2 f6), (a 7, aI (kG κ) 60 f7), (a 17, aI (kG κ) 12 f17), (a 21, aI (kG κ) 12 f21), (a 22, aI (kG κ) 12 f22), (a 23, aI (kG κ) 12 f23), (a 24, aI (kG κ) 12 f24), (a 25, aI (kG κ) 12 f25), (a 26, aI (kG κ) 12 f26), (a 27, aI (kG κ) 12 f27), (a 28, aI (kG κ) 12 f28), (a 29, aZ (kG κ) 4 f29), (a 31, aI (kG κ) 1300 f31), (a 32, aI (kG κ) 1300 f32), (a 33, aI (kG κ) 1300 f33), (a 34, aI (kG κ) 1300 f34), (a 35, aI (kG κ) 13000 f35), (a 36, aI (kG κ) 606 f36), (a 37, aI (kG κ) 12 f37), (a 38, aI (kG κ) 12 f38), (a 41, aI (kG κ) 64 f41)]) C 0 0 dX9_state_2 rfl wl_X9_90 rfl (by decide) rfl rfl rfl (ms_0 _ _ _) rfl ?_
  refine w_iload_n (nx := 6) C 1 dX9_state_5 rfl rfl rfl ?_
  refine w_iload_n (nx := 7) C 2 dX9_state_6 rfl rfl rfl ?_
  refine w_iload_n (nx := 8) C 3 dX9_state_7 rfl rfl rfl ?_
  refine w_iload (nx := 10) C 4 dX9_state_8 rfl rfl ?_
  refine w_callS (nx := 13) (wr := [(a 0, mO a (upd v 0 (nI 0))), (a 1, aI (kG κ) 800 f1), (a 2, aI (kG κ) 800 f2), (a 3, aI (kG κ) 4800 f3), (a 5, aI (kG κ) 1600 f5), (a 6, aZ (kG κ) 2 f6), (a 7, aI (kG κ) 60 f7), (a 17, aI (kG κ) 12 f17), (a 21, aI (kG κ) 12 f21), (a 22, aI (kG κ) 12 f22), (a 23, aI (kG κ) 12 f23), (a 24, aI (kG κ) 12 f24), (a 25, aI (kG κ) 12 f25), (a 26, aI (kG κ) 12 f26), (a 27, aI (kG κ) 12 f27), (a 28, aI (kG κ) 12 f28), (a 29, aZ (kG κ) 4 f29), (a 31, aI (kG κ) 1300 f31), (a 32, aI (kG κ) 1300 f32), (a 33, aI (kG κ) 1300 f33), (a 34, aI (kG κ) 1300 f34), (a 35, aI (kG κ) 13000 f35), (a 36, aI (kG κ) 606 f36), (a 37, aI (kG κ) 12 f37), (a 38, aI (kG κ) 12 f38), (a 41, aI (kG κ) 64 f41)]) (rest := []) C ms_X9_refuses (c_X9_refuses _ _ qk qt qy qn) dX9_state_10 rfl wl_X9_211 rfl (pm_sel [0, 1, 2, 3, 4, 5, 6, 7, 8, 9, 10, 11, 12, 13, 14, 15, 16, 17, 18, 19, 20, 21, 22, 23, 24, 25] 26 (by decide +kernel) rfl rfl) rfl rfl (Nat.le_of_ble_eq_true rfl) (Nat.le_of_ble_eq_true rfl) (Nat.le_of_ble_eq_true rfl) (Nat.zero_le _) (Nat.zero_le _) (fun v9 w9 R_1 => ?_)
  rcases R_1 with ⟨ve, rfl, rfl, hv0, hoE⟩ | ⟨jk, jt, jy, jn, rfl, rfl, ee1, ee2, ee3, ee4, hoE, hjk, hjt, hjy, hjn⟩
  · show WW κ 0 0 [(a 0, mO a (upd v 0 (nI 0))), (a 1, aI (kG κ) 800 f1), (a 2, aI (kG κ) 800 f2), (a 3, aI (kG κ) 4800 f3), (a 5, aI (kG κ) 1600 f5), (a 6, aZ (kG κ) 2 f6), (a 7, aI (kG κ) 60 f7), (a 17, aI (kG κ) 12 f17), (a 21, aI (kG κ) 12 f21), (a 22, aI (kG κ) 12 f22), (a 23, aI (kG κ) 12 f23), (a 24, aI (kG κ) 12 f24), (a 25, aI (kG κ) 12 f25), (a 26, aI (kG κ) 12 f26), (a 27, aI (kG κ) 12 f27), (a 28, aI (kG κ) 12 f28), (a 29, aZ (kG κ) 4 f29), (a 31, aI (kG κ) 1300 f31), (a 32, aI (kG κ) 1300 f32), (a 33, aI (kG κ) 1300 f33), (a 34, aI (kG κ) 1300 f34), (a 35, aI (kG κ) 13000 f35), (a 36, aI (kG κ) 606 f36), (a 37, aI (kG κ) 12 f37), (a 38, aI (kG κ) 12 f38), (a 41, aI (kG κ) 64 f41)] 13 [(0, .ref (a 0)), (1, .int qk), (2, .int qt), (3, .int qy), (4, .int qn)] [.int ve]
    refine w_istore (nx := 15) (lo2 := [(5, .int ve), (0, .ref (a 0)), (1, .int qk), (2, .int qt), (3, .int qy), (4, .int qn)]) C dX9_state_13 rfl (by decide) rfl ?_
    refine w_iload (nx := 17) C 0 dX9_state_15 rfl rfl ?_
    refine w_if_eq (tg := 23) (nx := 20) C dX9_state_17 rfl rfl (fun h_2 => ?_) (fun h_2 => ?_)
    · exact absurd h_2 hv0
    · refine w_iload (nx := 22) C 0 dX9_state_20 rfl rfl ?_
      have ho9 : o_state X qk qt qy qn = (ve, X) := by unfold o_state; rw [hoE, if_pos hv0]
      refine w_iret (ty := .int) C E dX9_state_22 rfl rfl (Nat.le_refl _) (Nat.le_refl _) ?_
      rw [ho9]
      exact ⟨_, rfl, rfl, _, _, _, _, _, _, _, _, _, _, _, _, _, _, _, _, _, _, _, _, _, _, _, _, _, _, _, rfl, rfl, hO, hS, hU, hUn, hSl, hPd, h18⟩
  · show WW κ 0 0 [(a 0, mO a (upd v 0 (nI 0))), (a 1, aI (kG κ) 800 f1), (a 2, aI (kG κ) 800 f2), (a 3, aI (kG κ) 4800 f3), (a 5, aI (kG κ) 1600 f5), (a 6, aZ (kG κ) 2 f6), (a 7, aI (kG κ) 60 f7), (a 17, aI (kG κ) 12 f17), (a 21, aI (kG κ) 12 f21), (a 22, aI (kG κ) 12 f22), (a 23, aI (kG κ) 12 f23), (a 24, aI (kG κ) 12 f24), (a 25, aI (kG κ) 12 f25), (a 26, aI (kG κ) 12 f26), (a 27, aI (kG κ) 12 f27), (a 28, aI (kG κ) 12 f28), (a 29, aZ (kG κ) 4 f29), (a 31, aI (kG κ) 1300 f31), (a 32, aI (kG κ) 1300 f32), (a 33, aI (kG κ) 1300 f33), (a 34, aI (kG κ) 1300 f34), (a 35, aI (kG κ) 13000 f35), (a 36, aI (kG κ) 606 f36), (a 37, aI (kG κ) 12 f37), (a 38, aI (kG κ) 12 f38), (a 41, aI (kG κ) 64 f41)] 13 [(0, .ref (a 0)), (1, .int qk), (2, .int qt), (3, .int qy), (4, .int qn)] [.int (nI 0)]
    subst ee1; subst ee2; subst ee3; subst ee4
    refine w_istore (nx := 15) (lo2 := [(5, .int (nI 0)), (0, .ref (a 0)), (1, .int (nI jk)), (2, .int (nI jt)), (3, .int (nI jy)), (4, .int (nI jn))]) C dX9_state_13 rfl (by decide) rfl ?_
    refine w_iload (nx := 17) C 0 dX9_state_15 rfl rfl ?_
    refine w_if_eq (tg := 23) (nx := 20) C dX9_state_17 rfl rfl (fun _ => ?_) (fun q9 => absurd (by decide) q9)
    refine w_aload_n (nx := 24) C 1 dX9_state_23 rfl rfl rfl ?_
    refine w_iload_n (nx := 25) C 2 dX9_state_24 rfl rfl rfl ?_
    refine w_iload_n (nx := 26) C 3 dX9_state_25 rfl rfl rfl ?_
    refine w_iload_n (nx := 27) C 4 dX9_state_26 rfl rfl rfl ?_
    refine w_iload (nx := 29) C 5 dX9_state_27 rfl rfl ?_
    refine w_callV (nx := 32) (wr := [(a 3, aI (kG κ) 4800 f3), (a 5, aI (kG κ) 1600 f5), (a 6, aZ (kG κ) 2 f6), (a 7, aI (kG κ) 60 f7), (a 37, aI (kG κ) 12 f37), (a 38, aI (kG κ) 12 f38), (a 41, aI (kG κ) 64 f41)]) (rest := []) C mi_X9_tries (c_X9_tries _ _ a (upd v 0 (nI 0)) f1 f17 f21 f22 f23 f24 f25 f26 f27 f28 f29 f31 f32 f33 f34 f35 f36 f2 (xS X) 99 (-6) jk jt jy jn (hO.1) (hS) (wo_6) (h18) (by first | assumption | omega) (by first | assumption | omega) (by first | assumption | omega) (by first | assumption | omega)) 0 dX9_state_29 rfl wl_X9_215 rfl rfl rfl (pm_sel [0, 1, 7, 8, 9, 10, 11, 12, 13, 14, 15, 16, 17, 18, 19, 20, 21, 22, 2, 3, 4, 5, 6, 23, 24, 25] 26 (by decide +kernel) rfl rfl) rfl rfl (Nat.le_of_ble_eq_true rfl) (Nat.le_of_ble_eq_true rfl) (Nat.le_of_ble_eq_true rfl) (Nat.zero_le _) (Nat.zero_le _) (fun v9 w9 R_4 => ?_)
    obtain ⟨rA, vA, gA1, gA17, gA21, gA22, gA23, gA24, gA25, gA26, gA27, gA28, gA29, gA31, gA32, gA33, gA34, gA35, gA36, gA2, rfl, rfl, heA, hsA, hVA, h17A, hXA, hSA⟩ := R_4
    show WW κ 0 0 [(a 0, mO a vA), (a 1, aI (kG κ) 800 gA1), (a 17, aI (kG κ) 12 gA17), (a 21, aI (kG κ) 12 gA21), (a 22, aI (kG κ) 12 gA22), (a 23, aI (kG κ) 12 gA23), (a 24, aI (kG κ) 12 gA24), (a 25, aI (kG κ) 12 gA25), (a 26, aI (kG κ) 12 gA26), (a 27, aI (kG κ) 12 gA27), (a 28, aI (kG κ) 12 gA28), (a 29, aZ (kG κ) 4 gA29), (a 31, aI (kG κ) 1300 gA31), (a 32, aI (kG κ) 1300 gA32), (a 33, aI (kG κ) 1300 gA33), (a 34, aI (kG κ) 1300 gA34), (a 35, aI (kG κ) 13000 gA35), (a 36, aI (kG κ) 606 gA36), (a 2, aI (kG κ) 800 gA2), (a 3, aI (kG κ) 4800 f3), (a 5, aI (kG κ) 1600 f5), (a 6, aZ (kG κ) 2 f6), (a 7, aI (kG κ) 60 f7), (a 37, aI (kG κ) 12 f37), (a 38, aI (kG κ) 12 f38), (a 41, aI (kG κ) 64 f41)] 32 [(5, .int (nI 0)), (0, .ref (a 0)), (1, .int (nI jk)), (2, .int (nI jt)), (3, .int (nI jy)), (4, .int (nI jn))] [.int (bC (rsn rA = 0))]
    have her : rnS (xS X) (sD (xS X)) 99 jk jt jy jn = rA := heA.symm
    refine b_if_ne (tg := 38) (nx := 35) C dX9_state_32 rfl rfl (fun h_5 => ?_) (fun h_5 => ?_)
    · have hok := h_5
      refine w_aload_n (nx := 39) C 1 dX9_state_38 rfl rfl rfl ?_
      refine w_callV (nx := 42) (wr := [(a 17, aI (kG κ) 12 gA17), (a 21, aI (kG κ) 12 gA21), (a 22, aI (kG κ) 12 gA22), (a 23, aI (kG κ) 12 gA23), (a 24, aI (kG κ) 12 gA24), (a 25, aI (kG κ) 12 gA25), (a 26, aI (kG κ) 12 gA26), (a 27, aI (kG κ) 12 gA27), (a 28, aI (kG κ) 12 gA28), (a 29, aZ (kG κ) 4 gA29), (a 31, aI (kG κ) 1300 gA31), (a 32, aI (kG κ) 1300 gA32), (a 33, aI (kG κ) 1300 gA33), (a 34, aI (kG κ) 1300 gA34), (a 35, aI (kG κ) 13000 gA35), (a 36, aI (kG κ) 606 gA36), (a 2, aI (kG κ) 800 gA2), (a 5, aI (kG κ) 1600 f5), (a 6, aZ (kG κ) 2 f6), (a 7, aI (kG κ) 60 f7), (a 37, aI (kG κ) 12 f37), (a 38, aI (kG κ) 12 f38), (a 41, aI (kG κ) 64 f41)]) (rest := []) C mi_X9_records (c_X9_records _ _ a vA gA1 f3 (xH X) (xS X) ((hsA.2.1.trans hU)) (hz6) (hO.2.1) (hUn) (hSA) (hO.1)) 0 dX9_state_39 rfl wl_X9_205 rfl rfl rfl (pm_sel [0, 1, 19, 2, 3, 4, 5, 6, 7, 8, 9, 10, 11, 12, 13, 14, 15, 16, 17, 18, 20, 21, 22, 23, 24, 25] 26 (by decide +kernel) rfl rfl) rfl rfl (Nat.le_of_ble_eq_true rfl) (Nat.le_of_ble_eq_true rfl) (Nat.le_of_ble_eq_true rfl) (Nat.zero_le _) (Nat.zero_le _) (fun v9 w9 R_6 => ?_)
      obtain ⟨vR, gR3, rfl, rfl, hRU, hRq, hRn⟩ := R_6
      show WW κ 0 0 [(a 0, mO a vR), (a 1, aI (kG κ) 800 gA1), (a 3, aI (kG κ) 4800 gR3), (a 17, aI (kG κ) 12 gA17), (a 21, aI (kG κ) 12 gA21), (a 22, aI (kG κ) 12 gA22), (a 23, aI (kG κ) 12 gA23), (a 24, aI (kG κ) 12 gA24), (a 25, aI (kG κ) 12 gA25), (a 26, aI (kG κ) 12 gA26), (a 27, aI (kG κ) 12 gA27), (a 28, aI (kG κ) 12 gA28), (a 29, aZ (kG κ) 4 gA29), (a 31, aI (kG κ) 1300 gA31), (a 32, aI (kG κ) 1300 gA32), (a 33, aI (kG κ) 1300 gA33), (a 34, aI (kG κ) 1300 gA34), (a 35, aI (kG κ) 13000 gA35), (a 36, aI (kG κ) 606 gA36), (a 2, aI (kG κ) 800 gA2), (a 5, aI (kG κ) 1600 f5), (a 6, aZ (kG κ) 2 f6), (a 7, aI (kG κ) 60 f7), (a 37, aI (kG κ) 12 f37), (a 38, aI (kG κ) 12 f38), (a 41, aI (kG κ) 64 f41)] 42 [(5, .int (nI 0)), (0, .ref (a 0)), (1, .int (nI jk)), (2, .int (nI jt)), (3, .int (nI jy)), (4, .int (nI jn))] []
      refine w_aload_n (nx := 43) C 1 dX9_state_42 rfl rfl rfl ?_
      refine w_iload_n (nx := 44) C 2 dX9_state_43 rfl rfl rfl ?_
      refine w_iload_n (nx := 45) C 3 dX9_state_44 rfl rfl rfl ?_
      refine w_iload_n (nx := 46) C 4 dX9_state_45 rfl rfl rfl ?_
      refine w_iload (nx := 48) C 5 dX9_state_46 rfl rfl ?_
      refine w_callV (nx := 51) (wr := [(a 3, aI (kG κ) 4800 gR3), (a 5, aI (kG κ) 1600 f5), (a 6, aZ (kG κ) 2 f6), (a 7, aI (kG κ) 60 f7), (a 37, aI (kG κ) 12 f37), (a 38, aI (kG κ) 12 f38), (a 41, aI (kG κ) 64 f41)]) (rest := []) C mi_X9_states (c_X9_states _ _ a vR gA1 gA17 gA21 gA22 gA23 gA24 gA25 gA26 gA27 gA28 gA29 gA31 gA32 gA33 gA34 gA35 gA36 gA2 (xS X) 99 (-6) jk jt jy jn (hO.1) (hSA) (wo_6) (((hRq 18 (by decide)).trans (hsA.2.2.2.1.trans h18))) (by first | assumption | omega) (by first | assumption | omega) (by first | assumption | omega) (by first | assumption | omega)) 0 dX9_state_48 rfl wl_X9_218 rfl rfl rfl (pm_sel [0, 1, 3, 4, 5, 6, 7, 8, 9, 10, 11, 12, 13, 14, 15, 16, 17, 18, 19, 2, 20, 21, 22, 23, 24, 25] 26 (by decide +kernel) rfl rfl) rfl rfl (Nat.le_of_ble_eq_true rfl) (Nat.le_of_ble_eq_true rfl) (Nat.le_of_ble_eq_true rfl) (Nat.zero_le _) (Nat.zero_le _) (fun v9 w9 R_7 => ?_)
      rcases R_7 with ⟨rB, vB, gB1, gB17, gB21, gB22, gB23, gB24, gB25, gB26, gB27, gB28, gB29, gB31, gB32, gB33, gB34, gB35, gB36, gB2, rfl, rfl, heB, hsB, hnB, hSB⟩ | ⟨rB, vB, gB1, gB17, gB21, gB22, gB23, gB24, gB25, gB26, gB27, gB28, gB29, gB31, gB32, gB33, gB34, gB35, gB36, gB2, rfl, rfl, heB, hsB, hnB, hSB, hXB, h13B⟩
      · show WW κ 0 0 [(a 0, mO a vB), (a 1, aI (kG κ) 800 gB1), (a 17, aI (kG κ) 12 gB17), (a 21, aI (kG κ) 12 gB21), (a 22, aI (kG κ) 12 gB22), (a 23, aI (kG κ) 12 gB23), (a 24, aI (kG κ) 12 gB24), (a 25, aI (kG κ) 12 gB25), (a 26, aI (kG κ) 12 gB26), (a 27, aI (kG κ) 12 gB27), (a 28, aI (kG κ) 12 gB28), (a 29, aZ (kG κ) 4 gB29), (a 31, aI (kG κ) 1300 gB31), (a 32, aI (kG κ) 1300 gB32), (a 33, aI (kG κ) 1300 gB33), (a 34, aI (kG κ) 1300 gB34), (a 35, aI (kG κ) 13000 gB35), (a 36, aI (kG κ) 606 gB36), (a 2, aI (kG κ) 800 gB2), (a 3, aI (kG κ) 4800 gR3), (a 5, aI (kG κ) 1600 f5), (a 6, aZ (kG κ) 2 f6), (a 7, aI (kG κ) 60 f7), (a 37, aI (kG κ) 12 f37), (a 38, aI (kG κ) 12 f38), (a 41, aI (kG κ) 64 f41)] 51 [(5, .int (nI 0)), (0, .ref (a 0)), (1, .int (nI jk)), (2, .int (nI jt)), (3, .int (nI jy)), (4, .int (nI jn))] [.int (nI 0)]
        exact absurd ((congrArg rsn (heB.trans her)).trans hok) hnB
      · show WW κ 0 0 [(a 0, mO a vB), (a 1, aI (kG κ) 800 gB1), (a 17, aI (kG κ) 12 gB17), (a 21, aI (kG κ) 12 gB21), (a 22, aI (kG κ) 12 gB22), (a 23, aI (kG κ) 12 gB23), (a 24, aI (kG κ) 12 gB24), (a 25, aI (kG κ) 12 gB25), (a 26, aI (kG κ) 12 gB26), (a 27, aI (kG κ) 12 gB27), (a 28, aI (kG κ) 12 gB28), (a 29, aZ (kG κ) 4 gB29), (a 31, aI (kG κ) 1300 gB31), (a 32, aI (kG κ) 1300 gB32), (a 33, aI (kG κ) 1300 gB33), (a 34, aI (kG κ) 1300 gB34), (a 35, aI (kG κ) 13000 gB35), (a 36, aI (kG κ) 606 gB36), (a 2, aI (kG κ) 800 gB2), (a 3, aI (kG κ) 4800 gR3), (a 5, aI (kG κ) 1600 f5), (a 6, aZ (kG κ) 2 f6), (a 7, aI (kG κ) 60 f7), (a 37, aI (kG κ) 12 f37), (a 38, aI (kG κ) 12 f38), (a 41, aI (kG κ) 64 f41)] 51 [(5, .int (nI 0)), (0, .ref (a 0)), (1, .int (nI jk)), (2, .int (nI jt)), (3, .int (nI jy)), (4, .int (nI jn))] [.int (nI 1)]
        refine w_pop (nx := 52) C dX9_state_51 rfl rfl ?_
        refine w_aload_n (nx := 53) C 1 dX9_state_52 rfl rfl rfl ?_
        refine w_getM (nx := 56) C (.int (vB 13)) 0 13 dX9_state_53 rfl wl_X9_161 rfl (by decide) rfl (mg_13 _ _) ?_
        refine w_top (nI ((rsJ rB).1)) h13B ?_
        refine ww_sel (l := [(a 0, mO a vB), (a 1, aI (kG κ) 800 gB1), (a 2, aI (kG κ) 800 gB2), (a 3, aI (kG κ) 4800 gR3), (a 5, aI (kG κ) 1600 f5), (a 6, aZ (kG κ) 2 f6), (a 7, aI (kG κ) 60 f7), (a 17, aI (kG κ) 12 gB17), (a 21, aI (kG κ) 12 gB21), (a 22, aI (kG κ) 12 gB22), (a 23, aI (kG κ) 12 gB23), (a 24, aI (kG κ) 12 gB24), (a 25, aI (kG κ) 12 gB25), (a 26, aI (kG κ) 12 gB26), (a 27, aI (kG κ) 12 gB27), (a 28, aI (kG κ) 12 gB28), (a 29, aZ (kG κ) 4 gB29), (a 31, aI (kG κ) 1300 gB31), (a 32, aI (kG κ) 1300 gB32), (a 33, aI (kG κ) 1300 gB33), (a 34, aI (kG κ) 1300 gB34), (a 35, aI (kG κ) 13000 gB35), (a 36, aI (kG κ) 606 gB36), (a 37, aI (kG κ) 12 f37), (a 38, aI (kG κ) 12 f38), (a 41, aI (kG κ) 64 f41)]) (pm_sel [0, 1, 18, 19, 20, 21, 22, 2, 3, 4, 5, 6, 7, 8, 9, 10, 11, 12, 13, 14, 15, 16, 17, 23, 24, 25] 26 (by decide +kernel) rfl rfl) ?_
        have ho9 : o_state X (nI jk) (nI jt) (nI jy) (nI jn) = ((nI ((rsJ rB).1)), (tkS (xS X) rB, kpH (xH X) (xS X), X.2.2)) := by unfold o_state; rw [if_neg (fun z => z hoE), tn_nI (show jk < 2 ^ 31 by omega), tn_nI (show jt < 2 ^ 31 by omega), tn_nI (show jy < 2 ^ 31 by omega), tn_nI (show jn < 2 ^ 31 by omega), ← heB, if_neg (fun z => z hnB)]
        have hw9 : wfO (tkS (xS X) rB, kpH (xH X) (xS X), X.2.2) := by
          have z9 : wfO (o_state X (nI jk) (nI jt) (nI jy) (nI jn)).2 := w_o_state hO
          rw [ho9] at z9
          exact z9
        refine w_iret (ty := .int) C E dX9_state_56 rfl rfl (Nat.le_refl _) (Nat.le_refl _) ?_
        rw [ho9]
        exact ⟨_, rfl, rfl, _, _, _, _, _, _, _, _, _, _, _, _, _, _, _, _, _, _, _, _, _, _, _, _, _, _, _, rfl, rfl, hw9, hSB, (hsB.2.1.trans hRU), hRn, hSl, (⟨hsB.2.2.1.trans ((hRq 8 (by decide)).trans (hsA.2.2.1.trans hPd.1)), hPd.2⟩), (hsB.2.2.2.1.trans ((hRq 18 (by decide)).trans (hsA.2.2.2.1.trans h18)))⟩
    · have hfl := h_5
      refine w_bipush (nx := 37) C (-5) dX9_state_35 rfl (by decide) ?_
      refine ww_sel (l := [(a 0, mO a vA), (a 1, aI (kG κ) 800 gA1), (a 2, aI (kG κ) 800 gA2), (a 3, aI (kG κ) 4800 f3), (a 5, aI (kG κ) 1600 f5), (a 6, aZ (kG κ) 2 f6), (a 7, aI (kG κ) 60 f7), (a 17, aI (kG κ) 12 gA17), (a 21, aI (kG κ) 12 gA21), (a 22, aI (kG κ) 12 gA22), (a 23, aI (kG κ) 12 gA23), (a 24, aI (kG κ) 12 gA24), (a 25, aI (kG κ) 12 gA25), (a 26, aI (kG κ) 12 gA26), (a 27, aI (kG κ) 12 gA27), (a 28, aI (kG κ) 12 gA28), (a 29, aZ (kG κ) 4 gA29), (a 31, aI (kG κ) 1300 gA31), (a 32, aI (kG κ) 1300 gA32), (a 33, aI (kG κ) 1300 gA33), (a 34, aI (kG κ) 1300 gA34), (a 35, aI (kG κ) 13000 gA35), (a 36, aI (kG κ) 606 gA36), (a 37, aI (kG κ) 12 f37), (a 38, aI (kG κ) 12 f38), (a 41, aI (kG κ) 64 f41)]) (pm_sel [0, 1, 18, 19, 20, 21, 22, 2, 3, 4, 5, 6, 7, 8, 9, 10, 11, 12, 13, 14, 15, 16, 17, 23, 24, 25] 26 (by decide +kernel) rfl rfl) ?_
      have ho9 : o_state X (nI jk) (nI jt) (nI jy) (nI jn) = ((-5), X) := by unfold o_state; rw [if_neg (fun z => z hoE), tn_nI (show jk < 2 ^ 31 by omega), tn_nI (show jt < 2 ^ 31 by omega), tn_nI (show jy < 2 ^ 31 by omega), tn_nI (show jn < 2 ^ 31 by omega), her, if_pos hfl]
      refine w_iret (ty := .int) C E dX9_state_37 rfl rfl (Nat.le_refl _) (Nat.le_refl _) ?_
      rw [ho9]
      exact ⟨_, rfl, rfl, _, _, _, _, _, _, _, _, _, _, _, _, _, _, _, _, _, _, _, _, _, _, _, _, _, _, _, rfl, rfl, hO, hSA, (hsA.2.1.trans hU), hUn, hSl, (⟨hsA.2.2.1.trans hPd.1, hPd.2⟩), (hsA.2.2.2.1.trans h18)⟩
set_option maxHeartbeats 4000000 in
set_option maxRecDepth 100000 in
theorem c_X9_tried (l : Launch) (G : GG) (h : Nat) (w : va_W) (X : SX) (qk : Int32) (qt : Int32) (qy : Int32) (qn : Int32) (qw : Int32) (hRX : RMX G h w X) : MT l G yX9_tried cX9_tried 8 (some .int) 11 0 0 [.ref h, .int qk, .int qt, .int qy, .int qn, .int qw] ((w)) (fun v9 ws9 => ∃ (w2 : va_W), v9 = some (.int ((o_tried X qk qt qy qn qw).1)) ∧ ws9 = ((w2)) ∧ RMX G h w2 (o_tried X qk qt qy qn qw).2) := by
  refine RMX_elim hRX (fun a v f1 f2 f3 f5 f6 f7 f17 f21 f22 f23 f24 f25 f26 f27 f28 f29 f31 f32 f33 f34 f35 f36 f37 f38 f41 hw9 hh hO hS hU hUn hSl hPd h18 => ?_)
  subst hw9
  subst hh
  refine MT.of RX9 [(0, .ref (a 0)), (1, .int qk), (2, .int qt), (3, .int qy), (4, .int qn), (5, .int qw)] (by decide +kernel) rfl rfl (Nat.le_of_ble_eq_true rfl) (fun κ C E hl9 hG9 hnm9 => ?_)
  subst hl9; subst hG9
  have hn12 := hO.1.2.2.2.1.1
  have hj100 := hO.1.2.2.2.2
  have hz6 := hO.2.1.1
  have hp60 := hO.2.2.2.1
  have hd8 := hO.1.1
  have hl1 := hO.1.2.1
  have hzT := hO.1.2.2.1
  refine w_aload_n (nx := 1) C 0 dX9_tried_0 rfl rfl rfl ?_
  refine w_iconst (nx := 2) C (nI 0) dX9_tried_1 rfl (by decide) ?_
  refine w_putM (nx := 5) (ws2 := [(a 0, mO a (upd v 0 (nI 0))), (a 1, aI (kG κ) 800 f1), (a 2, aI (kG κ) 800 f2), (a 3, aI (kG κ) 4800 f3), (a 5, aI (kG κ) 1600 f5), (a 6, aZ (kG κ) 2 f6), (a 7, aI (kG κ) 60 f7), (a 17, aI (kG κ) 12 f17), (a 21, aI (kG κ) 12 f21), (a 22, aI (kG κ) 12 f22), (a 23, aI (kG κ) 12 f23), (a 24, aI (kG κ) 12 f24), (a 25, aI (kG κ) 12 f25), (a 26, aI (kG κ) 12 f26), (a 27, aI (kG κ) 12 f27), (a 28, aI (kG κ) 12 f28), (a 29, aZ (kG κ) 4 f29), (a 31, aI (kG κ) 1300 f31), (a 32, aI (kG κ) 1300 f32), (a 33, aI (kG κ) 1300 f33), (a 34, aI (kG κ) 1300 f34), (a 35, aI (kG κ) 13000 f35), (a 36, aI (kG κ) 606 f36), (a 37, aI (kG κ) 12 f37), (a 38, aI (kG κ) 12 f38), (a 41, aI (kG κ) 64 f41)]) C 0 0 dX9_tried_2 rfl wl_X9_90 rfl (by decide) rfl rfl rfl (ms_0 _ _ _) rfl ?_
  refine w_iload_n (nx := 6) C 1 dX9_tried_5 rfl rfl rfl ?_
  refine w_iload_n (nx := 7) C 2 dX9_tried_6 rfl rfl rfl ?_
  refine w_iload_n (nx := 8) C 3 dX9_tried_7 rfl rfl rfl ?_
  refine w_iload (nx := 10) C 4 dX9_tried_8 rfl rfl ?_
  refine w_callS (nx := 13) (wr := [(a 0, mO a (upd v 0 (nI 0))), (a 1, aI (kG κ) 800 f1), (a 2, aI (kG κ) 800 f2), (a 3, aI (kG κ) 4800 f3), (a 5, aI (kG κ) 1600 f5), (a 6, aZ (kG κ) 2 f6), (a 7, aI (kG κ) 60 f7), (a 17, aI (kG κ) 12 f17), (a 21, aI (kG κ) 12 f21), (a 22, aI (kG κ) 12 f22), (a 23, aI (kG κ) 12 f23), (a 24, aI (kG κ) 12 f24), (a 25, aI (kG κ) 12 f25), (a 26, aI (kG κ) 12 f26), (a 27, aI (kG κ) 12 f27), (a 28, aI (kG κ) 12 f28), (a 29, aZ (kG κ) 4 f29), (a 31, aI (kG κ) 1300 f31), (a 32, aI (kG κ) 1300 f32), (a 33, aI (kG κ) 1300 f33), (a 34, aI (kG κ) 1300 f34), (a 35, aI (kG κ) 13000 f35), (a 36, aI (kG κ) 606 f36), (a 37, aI (kG κ) 12 f37), (a 38, aI (kG κ) 12 f38), (a 41, aI (kG κ) 64 f41)]) (rest := []) C ms_X9_refuses (c_X9_refuses _ _ qk qt qy qn) dX9_tried_10 rfl wl_X9_211 rfl (pm_sel [0, 1, 2, 3, 4, 5, 6, 7, 8, 9, 10, 11, 12, 13, 14, 15, 16, 17, 18, 19, 20, 21, 22, 23, 24, 25] 26 (by decide +kernel) rfl rfl) rfl rfl (Nat.le_of_ble_eq_true rfl) (Nat.le_of_ble_eq_true rfl) (Nat.le_of_ble_eq_true rfl) (Nat.zero_le _) (Nat.zero_le _) (fun v9 w9 R_1 => ?_)
  rcases R_1 with ⟨ve, rfl, rfl, hv0, hoE⟩ | ⟨jk, jt, jy, jn, rfl, rfl, ee1, ee2, ee3, ee4, hoE, hjk, hjt, hjy, hjn⟩
  · show WW κ 0 0 [(a 0, mO a (upd v 0 (nI 0))), (a 1, aI (kG κ) 800 f1), (a 2, aI (kG κ) 800 f2), (a 3, aI (kG κ) 4800 f3), (a 5, aI (kG κ) 1600 f5), (a 6, aZ (kG κ) 2 f6), (a 7, aI (kG κ) 60 f7), (a 17, aI (kG κ) 12 f17), (a 21, aI (kG κ) 12 f21), (a 22, aI (kG κ) 12 f22), (a 23, aI (kG κ) 12 f23), (a 24, aI (kG κ) 12 f24), (a 25, aI (kG κ) 12 f25), (a 26, aI (kG κ) 12 f26), (a 27, aI (kG κ) 12 f27), (a 28, aI (kG κ) 12 f28), (a 29, aZ (kG κ) 4 f29), (a 31, aI (kG κ) 1300 f31), (a 32, aI (kG κ) 1300 f32), (a 33, aI (kG κ) 1300 f33), (a 34, aI (kG κ) 1300 f34), (a 35, aI (kG κ) 13000 f35), (a 36, aI (kG κ) 606 f36), (a 37, aI (kG κ) 12 f37), (a 38, aI (kG κ) 12 f38), (a 41, aI (kG κ) 64 f41)] 13 [(0, .ref (a 0)), (1, .int qk), (2, .int qt), (3, .int qy), (4, .int qn), (5, .int qw)] [.int ve]
    refine w_istore (nx := 15) (lo2 := [(6, .int ve), (0, .ref (a 0)), (1, .int qk), (2, .int qt), (3, .int qy), (4, .int qn), (5, .int qw)]) C dX9_tried_13 rfl (by decide) rfl ?_
    refine w_iload (nx := 17) C 0 dX9_tried_15 rfl rfl ?_
    refine w_if_eq (tg := 23) (nx := 20) C dX9_tried_17 rfl rfl (fun h_2 => ?_) (fun h_2 => ?_)
    · exact absurd h_2 hv0
    · refine w_iload (nx := 22) C 0 dX9_tried_20 rfl rfl ?_
      have ho9 : o_tried X qk qt qy qn qw = (ve, X) := by unfold o_tried; rw [hoE, if_pos hv0]
      refine w_iret (ty := .int) C E dX9_tried_22 rfl rfl (Nat.le_refl _) (Nat.le_refl _) ?_
      rw [ho9]
      exact ⟨_, rfl, rfl, _, _, _, _, _, _, _, _, _, _, _, _, _, _, _, _, _, _, _, _, _, _, _, _, _, _, _, rfl, rfl, hO, hS, hU, hUn, hSl, hPd, h18⟩
  · show WW κ 0 0 [(a 0, mO a (upd v 0 (nI 0))), (a 1, aI (kG κ) 800 f1), (a 2, aI (kG κ) 800 f2), (a 3, aI (kG κ) 4800 f3), (a 5, aI (kG κ) 1600 f5), (a 6, aZ (kG κ) 2 f6), (a 7, aI (kG κ) 60 f7), (a 17, aI (kG κ) 12 f17), (a 21, aI (kG κ) 12 f21), (a 22, aI (kG κ) 12 f22), (a 23, aI (kG κ) 12 f23), (a 24, aI (kG κ) 12 f24), (a 25, aI (kG κ) 12 f25), (a 26, aI (kG κ) 12 f26), (a 27, aI (kG κ) 12 f27), (a 28, aI (kG κ) 12 f28), (a 29, aZ (kG κ) 4 f29), (a 31, aI (kG κ) 1300 f31), (a 32, aI (kG κ) 1300 f32), (a 33, aI (kG κ) 1300 f33), (a 34, aI (kG κ) 1300 f34), (a 35, aI (kG κ) 13000 f35), (a 36, aI (kG κ) 606 f36), (a 37, aI (kG κ) 12 f37), (a 38, aI (kG κ) 12 f38), (a 41, aI (kG κ) 64 f41)] 13 [(0, .ref (a 0)), (1, .int qk), (2, .int qt), (3, .int qy), (4, .int qn), (5, .int qw)] [.int (nI 0)]
    subst ee1; subst ee2; subst ee3; subst ee4
    refine w_istore (nx := 15) (lo2 := [(6, .int (nI 0)), (0, .ref (a 0)), (1, .int (nI jk)), (2, .int (nI jt)), (3, .int (nI jy)), (4, .int (nI jn)), (5, .int qw)]) C dX9_tried_13 rfl (by decide) rfl ?_
    refine w_iload (nx := 17) C 0 dX9_tried_15 rfl rfl ?_
    refine w_if_eq (tg := 23) (nx := 20) C dX9_tried_17 rfl rfl (fun _ => ?_) (fun q9 => absurd (by decide) q9)
    refine w_iload (nx := 25) C 6 dX9_tried_23 rfl rfl ?_
    refine w_iconst (nx := 26) C (nI 0) dX9_tried_25 rfl (by decide) ?_
    refine w_bipush (nx := 28) C (nI 20) dX9_tried_26 rfl (by decide) ?_
    refine w_callS (nx := 31) (wr := [(a 0, mO a (upd v 0 (nI 0))), (a 1, aI (kG κ) 800 f1), (a 2, aI (kG κ) 800 f2), (a 3, aI (kG κ) 4800 f3), (a 5, aI (kG κ) 1600 f5), (a 6, aZ (kG κ) 2 f6), (a 7, aI (kG κ) 60 f7), (a 17, aI (kG κ) 12 f17), (a 21, aI (kG κ) 12 f21), (a 22, aI (kG κ) 12 f22), (a 23, aI (kG κ) 12 f23), (a 24, aI (kG κ) 12 f24), (a 25, aI (kG κ) 12 f25), (a 26, aI (kG κ) 12 f26), (a 27, aI (kG κ) 12 f27), (a 28, aI (kG κ) 12 f28), (a 29, aZ (kG κ) 4 f29), (a 31, aI (kG κ) 1300 f31), (a 32, aI (kG κ) 1300 f32), (a 33, aI (kG κ) 1300 f33), (a 34, aI (kG κ) 1300 f34), (a 35, aI (kG κ) 13000 f35), (a 36, aI (kG κ) 606 f36), (a 37, aI (kG κ) 12 f37), (a 38, aI (kG κ) 12 f38), (a 41, aI (kG κ) 64 f41)]) (rest := []) C ms_X9_in (c_X9_in_w _ _ qw 21 (nI 20) (by decide) (by decide)) dX9_tried_28 rfl wl_X9_93 rfl (pm_sel [0, 1, 2, 3, 4, 5, 6, 7, 8, 9, 10, 11, 12, 13, 14, 15, 16, 17, 18, 19, 20, 21, 22, 23, 24, 25] 26 (by decide +kernel) rfl rfl) rfl rfl (Nat.le_of_ble_eq_true rfl) (Nat.le_of_ble_eq_true rfl) (Nat.le_of_ble_eq_true rfl) (Nat.zero_le _) (Nat.zero_le _) (fun v9 w9 R_4 => ?_)
    obtain ⟨rfl, rfl⟩ := R_4
    show WW κ 0 0 [(a 0, mO a (upd v 0 (nI 0))), (a 1, aI (kG κ) 800 f1), (a 2, aI (kG κ) 800 f2), (a 3, aI (kG κ) 4800 f3), (a 5, aI (kG κ) 1600 f5), (a 6, aZ (kG κ) 2 f6), (a 7, aI (kG κ) 60 f7), (a 17, aI (kG κ) 12 f17), (a 21, aI (kG κ) 12 f21), (a 22, aI (kG κ) 12 f22), (a 23, aI (kG κ) 12 f23), (a 24, aI (kG κ) 12 f24), (a 25, aI (kG κ) 12 f25), (a 26, aI (kG κ) 12 f26), (a 27, aI (kG κ) 12 f27), (a 28, aI (kG κ) 12 f28), (a 29, aZ (kG κ) 4 f29), (a 31, aI (kG κ) 1300 f31), (a 32, aI (kG κ) 1300 f32), (a 33, aI (kG κ) 1300 f33), (a 34, aI (kG κ) 1300 f34), (a 35, aI (kG κ) 13000 f35), (a 36, aI (kG κ) 606 f36), (a 37, aI (kG κ) 12 f37), (a 38, aI (kG κ) 12 f38), (a 41, aI (kG κ) 64 f41)] 31 [(6, .int (nI 0)), (0, .ref (a 0)), (1, .int (nI jk)), (2, .int (nI jt)), (3, .int (nI jy)), (4, .int (nI jn)), (5, .int qw)] [.int (bC (wi qw 21))]
    refine b_if_ne (tg := 37) (nx := 34) C dX9_tried_31 rfl rfl (fun h_5 => ?_) (fun h_5 => ?_)
    · obtain ⟨jw, hjw, rfl⟩ := h_5
      refine w_aload_n (nx := 38) C 1 dX9_tried_37 rfl rfl rfl ?_
      refine w_iload_n (nx := 39) C 2 dX9_tried_38 rfl rfl rfl ?_
      refine w_iload_n (nx := 40) C 3 dX9_tried_39 rfl rfl rfl ?_
      refine w_iload_n (nx := 41) C 4 dX9_tried_40 rfl rfl rfl ?_
      refine w_iload (nx := 43) C 5 dX9_tried_41 rfl rfl ?_
      refine w_callV (nx := 46) (wr := [(a 3, aI (kG κ) 4800 f3), (a 5, aI (kG κ) 1600 f5), (a 6, aZ (kG κ) 2 f6), (a 7, aI (kG κ) 60 f7), (a 37, aI (kG κ) 12 f37), (a 38, aI (kG κ) 12 f38), (a 41, aI (kG κ) 64 f41)]) (rest := []) C mi_X9_tries (c_X9_tries _ _ a (upd v 0 (nI 0)) f1 f17 f21 f22 f23 f24 f25 f26 f27 f28 f29 f31 f32 f33 f34 f35 f36 f2 (xS X) 99 (-6) jk jt jy jn (hO.1) (hS) (wo_6) (h18) (by first | assumption | omega) (by first | assumption | omega) (by first | assumption | omega) (by first | assumption | omega)) 0 dX9_tried_43 rfl wl_X9_215 rfl rfl rfl (pm_sel [0, 1, 7, 8, 9, 10, 11, 12, 13, 14, 15, 16, 17, 18, 19, 20, 21, 22, 2, 3, 4, 5, 6, 23, 24, 25] 26 (by decide +kernel) rfl rfl) rfl rfl (Nat.le_of_ble_eq_true rfl) (Nat.le_of_ble_eq_true rfl) (Nat.le_of_ble_eq_true rfl) (Nat.zero_le _) (Nat.zero_le _) (fun v9 w9 R_6 => ?_)
      obtain ⟨rA, vA, gA1, gA17, gA21, gA22, gA23, gA24, gA25, gA26, gA27, gA28, gA29, gA31, gA32, gA33, gA34, gA35, gA36, gA2, rfl, rfl, heA, hsA, hVA, h17A, hXA, hSA⟩ := R_6
      show WW κ 0 0 [(a 0, mO a vA), (a 1, aI (kG κ) 800 gA1), (a 17, aI (kG κ) 12 gA17), (a 21, aI (kG κ) 12 gA21), (a 22, aI (kG κ) 12 gA22), (a 23, aI (kG κ) 12 gA23), (a 24, aI (kG κ) 12 gA24), (a 25, aI (kG κ) 12 gA25), (a 26, aI (kG κ) 12 gA26), (a 27, aI (kG κ) 12 gA27), (a 28, aI (kG κ) 12 gA28), (a 29, aZ (kG κ) 4 gA29), (a 31, aI (kG κ) 1300 gA31), (a 32, aI (kG κ) 1300 gA32), (a 33, aI (kG κ) 1300 gA33), (a 34, aI (kG κ) 1300 gA34), (a 35, aI (kG κ) 13000 gA35), (a 36, aI (kG κ) 606 gA36), (a 2, aI (kG κ) 800 gA2), (a 3, aI (kG κ) 4800 f3), (a 5, aI (kG κ) 1600 f5), (a 6, aZ (kG κ) 2 f6), (a 7, aI (kG κ) 60 f7), (a 37, aI (kG κ) 12 f37), (a 38, aI (kG κ) 12 f38), (a 41, aI (kG κ) 64 f41)] 46 [(6, .int (nI 0)), (0, .ref (a 0)), (1, .int (nI jk)), (2, .int (nI jt)), (3, .int (nI jy)), (4, .int (nI jn)), (5, .int (nI jw))] [.int (bC (rsn rA = 0))]
      have her : rnS (xS X) (sD (xS X)) 99 jk jt jy jn = rA := heA.symm
      have hb1 : 1 ≤ rsB rA := her ▸ rB_run
      have hdp : vA 12 = nI (rsP rA) := by
        rcases hVA.2.2.2.1 with h9 | ⟨-, -, h9⟩
        · exact h9
        · omega
      have hcl := hXA.2.2.2.2.2.2.2.2.2.2.1
      refine w_istore (nx := 48) (lo2 := [(7, .int (bC (rsn rA = 0))), (6, .int (nI 0)), (0, .ref (a 0)), (1, .int (nI jk)), (2, .int (nI jt)), (3, .int (nI jy)), (4, .int (nI jn)), (5, .int (nI jw))]) C dX9_tried_46 rfl (by decide) rfl ?_
      rcases (show jw = 0 ∨ jw = 1 ∨ jw = 2 ∨ jw = 3 ∨ jw = 4 ∨ jw = 5 ∨ jw = 6 ∨ jw = 7 ∨ 8 ≤ jw by omega) with rfl | rfl | rfl | rfl | rfl | rfl | rfl | rfl | hj8
      · show WW κ 0 0 [(a 0, mO a vA), (a 1, aI (kG κ) 800 gA1), (a 17, aI (kG κ) 12 gA17), (a 21, aI (kG κ) 12 gA21), (a 22, aI (kG κ) 12 gA22), (a 23, aI (kG κ) 12 gA23), (a 24, aI (kG κ) 12 gA24), (a 25, aI (kG κ) 12 gA25), (a 26, aI (kG κ) 12 gA26), (a 27, aI (kG κ) 12 gA27), (a 28, aI (kG κ) 12 gA28), (a 29, aZ (kG κ) 4 gA29), (a 31, aI (kG κ) 1300 gA31), (a 32, aI (kG κ) 1300 gA32), (a 33, aI (kG κ) 1300 gA33), (a 34, aI (kG κ) 1300 gA34), (a 35, aI (kG κ) 13000 gA35), (a 36, aI (kG κ) 606 gA36), (a 2, aI (kG κ) 800 gA2), (a 3, aI (kG κ) 4800 f3), (a 5, aI (kG κ) 1600 f5), (a 6, aZ (kG κ) 2 f6), (a 7, aI (kG κ) 60 f7), (a 37, aI (kG κ) 12 f37), (a 38, aI (kG κ) 12 f38), (a 41, aI (kG κ) 64 f41)] 48 [(7, .int (bC (rsn rA = 0))), (6, .int (nI 0)), (0, .ref (a 0)), (1, .int (nI jk)), (2, .int (nI jt)), (3, .int (nI jy)), (4, .int (nI jn)), (5, .int (nI 0))] []
        refine w_iload (nx := 50) C 7 dX9_tried_48 rfl rfl ?_
        refine w_tableIn (nx := 96) C dX9_tried_50 (by decide) (by decide) rfl rfl ?_
        refine w_aload_n (nx := 97) C 2 dX9_tried_96 rfl rfl rfl ?_
        refine w_getM (nx := 100) C (.int (vA 9)) 0 9 dX9_tried_97 rfl wl_X9_114 rfl (by decide) rfl (mg_9 _ _) ?_
        refine w_top (nI (rsn rA)) hVA.1 ?_
        refine ww_sel (l := [(a 0, mO a vA), (a 1, aI (kG κ) 800 gA1), (a 2, aI (kG κ) 800 gA2), (a 3, aI (kG κ) 4800 f3), (a 5, aI (kG κ) 1600 f5), (a 6, aZ (kG κ) 2 f6), (a 7, aI (kG κ) 60 f7), (a 17, aI (kG κ) 12 gA17), (a 21, aI (kG κ) 12 gA21), (a 22, aI (kG κ) 12 gA22), (a 23, aI (kG κ) 12 gA23), (a 24, aI (kG κ) 12 gA24), (a 25, aI (kG κ) 12 gA25), (a 26, aI (kG κ) 12 gA26), (a 27, aI (kG κ) 12 gA27), (a 28, aI (kG κ) 12 gA28), (a 29, aZ (kG κ) 4 gA29), (a 31, aI (kG κ) 1300 gA31), (a 32, aI (kG κ) 1300 gA32), (a 33, aI (kG κ) 1300 gA33), (a 34, aI (kG κ) 1300 gA34), (a 35, aI (kG κ) 13000 gA35), (a 36, aI (kG κ) 606 gA36), (a 37, aI (kG κ) 12 f37), (a 38, aI (kG κ) 12 f38), (a 41, aI (kG κ) 64 f41)]) (pm_sel [0, 1, 18, 19, 20, 21, 22, 2, 3, 4, 5, 6, 7, 8, 9, 10, 11, 12, 13, 14, 15, 16, 17, 23, 24, 25] 26 (by decide +kernel) rfl rfl) ?_
        have ho9 : o_tried X (nI jk) (nI jt) (nI jy) (nI jn) (nI 0) = ((nI (rsn rA)), X) := by unfold o_tried; rw [if_neg (fun z => z hoE), if_neg (fun z => z ⟨0, hjw, rfl⟩), tn_nI (show jk < 2 ^ 31 by omega), tn_nI (show jt < 2 ^ 31 by omega), tn_nI (show jy < 2 ^ 31 by omega), tn_nI (show jn < 2 ^ 31 by omega), tn_nI (by decide), her]; rfl
        refine w_iret (ty := .int) C E dX9_tried_100 rfl rfl (Nat.le_refl _) (Nat.le_refl _) ?_
        rw [ho9]
        exact ⟨_, rfl, rfl, _, _, _, _, _, _, _, _, _, _, _, _, _, _, _, _, _, _, _, _, _, _, _, _, _, _, _, rfl, rfl, hO, hSA, (hsA.2.1.trans hU), hUn, hSl, (⟨hsA.2.2.1.trans hPd.1, hPd.2⟩), (hsA.2.2.2.1.trans h18)⟩
      · show WW κ 0 0 [(a 0, mO a vA), (a 1, aI (kG κ) 800 gA1), (a 17, aI (kG κ) 12 gA17), (a 21, aI (kG κ) 12 gA21), (a 22, aI (kG κ) 12 gA22), (a 23, aI (kG κ) 12 gA23), (a 24, aI (kG κ) 12 gA24), (a 25, aI (kG κ) 12 gA25), (a 26, aI (kG κ) 12 gA26), (a 27, aI (kG κ) 12 gA27), (a 28, aI (kG κ) 12 gA28), (a 29, aZ (kG κ) 4 gA29), (a 31, aI (kG κ) 1300 gA31), (a 32, aI (kG κ) 1300 gA32), (a 33, aI (kG κ) 1300 gA33), (a 34, aI (kG κ) 1300 gA34), (a 35, aI (kG κ) 13000 gA35), (a 36, aI (kG κ) 606 gA36), (a 2, aI (kG κ) 800 gA2), (a 3, aI (kG κ) 4800 f3), (a 5, aI (kG κ) 1600 f5), (a 6, aZ (kG κ) 2 f6), (a 7, aI (kG κ) 60 f7), (a 37, aI (kG κ) 12 f37), (a 38, aI (kG κ) 12 f38), (a 41, aI (kG κ) 64 f41)] 48 [(7, .int (bC (rsn rA = 0))), (6, .int (nI 0)), (0, .ref (a 0)), (1, .int (nI jk)), (2, .int (nI jt)), (3, .int (nI jy)), (4, .int (nI jn)), (5, .int (nI 1))] []
        refine w_iload (nx := 50) C 7 dX9_tried_48 rfl rfl ?_
        refine w_tableIn (nx := 101) C dX9_tried_50 (by decide) (by decide) rfl rfl ?_
        refine w_iload (nx := 103) C 0 dX9_tried_101 rfl rfl ?_
        refine b_if_eq (tg := 113) (nx := 106) C dX9_tried_103 rfl rfl (fun h_7 => ?_) (fun h_7 => ?_)
        · have hfl := h_7
          refine w_iconst (nx := 114) C (nI 0) dX9_tried_113 rfl (by decide) ?_
          refine ww_sel (l := [(a 0, mO a vA), (a 1, aI (kG κ) 800 gA1), (a 2, aI (kG κ) 800 gA2), (a 3, aI (kG κ) 4800 f3), (a 5, aI (kG κ) 1600 f5), (a 6, aZ (kG κ) 2 f6), (a 7, aI (kG κ) 60 f7), (a 17, aI (kG κ) 12 gA17), (a 21, aI (kG κ) 12 gA21), (a 22, aI (kG κ) 12 gA22), (a 23, aI (kG κ) 12 gA23), (a 24, aI (kG κ) 12 gA24), (a 25, aI (kG κ) 12 gA25), (a 26, aI (kG κ) 12 gA26), (a 27, aI (kG κ) 12 gA27), (a 28, aI (kG κ) 12 gA28), (a 29, aZ (kG κ) 4 gA29), (a 31, aI (kG κ) 1300 gA31), (a 32, aI (kG κ) 1300 gA32), (a 33, aI (kG κ) 1300 gA33), (a 34, aI (kG κ) 1300 gA34), (a 35, aI (kG κ) 13000 gA35), (a 36, aI (kG κ) 606 gA36), (a 37, aI (kG κ) 12 f37), (a 38, aI (kG κ) 12 f38), (a 41, aI (kG κ) 64 f41)]) (pm_sel [0, 1, 18, 19, 20, 21, 22, 2, 3, 4, 5, 6, 7, 8, 9, 10, 11, 12, 13, 14, 15, 16, 17, 23, 24, 25] 26 (by decide +kernel) rfl rfl) ?_
          have ho9 : o_tried X (nI jk) (nI jt) (nI jy) (nI jn) (nI 1) = ((nI 0), X) := by unfold o_tried; rw [if_neg (fun z => z hoE), if_neg (fun z => z ⟨1, hjw, rfl⟩), tn_nI (show jk < 2 ^ 31 by omega), tn_nI (show jt < 2 ^ 31 by omega), tn_nI (show jy < 2 ^ 31 by omega), tn_nI (show jn < 2 ^ 31 by omega), tn_nI (by decide), her]; show ((if rsn rA = 0 then nI (rsJ rA).1 else 0), X) = _; rw [if_neg hfl]; rfl
          refine w_iret (ty := .int) C E dX9_tried_114 rfl rfl (Nat.le_refl _) (Nat.le_refl _) ?_
          rw [ho9]
          exact ⟨_, rfl, rfl, _, _, _, _, _, _, _, _, _, _, _, _, _, _, _, _, _, _, _, _, _, _, _, _, _, _, _, rfl, rfl, hO, hSA, (hsA.2.1.trans hU), hUn, hSl, (⟨hsA.2.2.1.trans hPd.1, hPd.2⟩), (hsA.2.2.2.1.trans h18)⟩
        · have hok := h_7
          refine w_aload_n (nx := 107) C 2 dX9_tried_106 rfl rfl rfl ?_
          refine w_getM (nx := 110) C (.int (vA 13)) 0 13 dX9_tried_107 rfl wl_X9_161 rfl (by decide) rfl (mg_13 _ _) ?_
          refine w_top (nI ((rsJ rA).1)) hVA.2.2.2.2.1 ?_
          refine w_goto (nx := 114) C dX9_tried_110 rfl ?_
          refine ww_sel (l := [(a 0, mO a vA), (a 1, aI (kG κ) 800 gA1), (a 2, aI (kG κ) 800 gA2), (a 3, aI (kG κ) 4800 f3), (a 5, aI (kG κ) 1600 f5), (a 6, aZ (kG κ) 2 f6), (a 7, aI (kG κ) 60 f7), (a 17, aI (kG κ) 12 gA17), (a 21, aI (kG κ) 12 gA21), (a 22, aI (kG κ) 12 gA22), (a 23, aI (kG κ) 12 gA23), (a 24, aI (kG κ) 12 gA24), (a 25, aI (kG κ) 12 gA25), (a 26, aI (kG κ) 12 gA26), (a 27, aI (kG κ) 12 gA27), (a 28, aI (kG κ) 12 gA28), (a 29, aZ (kG κ) 4 gA29), (a 31, aI (kG κ) 1300 gA31), (a 32, aI (kG κ) 1300 gA32), (a 33, aI (kG κ) 1300 gA33), (a 34, aI (kG κ) 1300 gA34), (a 35, aI (kG κ) 13000 gA35), (a 36, aI (kG κ) 606 gA36), (a 37, aI (kG κ) 12 f37), (a 38, aI (kG κ) 12 f38), (a 41, aI (kG κ) 64 f41)]) (pm_sel [0, 1, 18, 19, 20, 21, 22, 2, 3, 4, 5, 6, 7, 8, 9, 10, 11, 12, 13, 14, 15, 16, 17, 23, 24, 25] 26 (by decide +kernel) rfl rfl) ?_
          have ho9 : o_tried X (nI jk) (nI jt) (nI jy) (nI jn) (nI 1) = ((nI ((rsJ rA).1)), X) := by unfold o_tried; rw [if_neg (fun z => z hoE), if_neg (fun z => z ⟨1, hjw, rfl⟩), tn_nI (show jk < 2 ^ 31 by omega), tn_nI (show jt < 2 ^ 31 by omega), tn_nI (show jy < 2 ^ 31 by omega), tn_nI (show jn < 2 ^ 31 by omega), tn_nI (by decide), her]; show ((if rsn rA = 0 then nI (rsJ rA).1 else 0), X) = _; rw [if_pos hok]
          refine w_iret (ty := .int) C E dX9_tried_114 rfl rfl (Nat.le_refl _) (Nat.le_refl _) ?_
          rw [ho9]
          exact ⟨_, rfl, rfl, _, _, _, _, _, _, _, _, _, _, _, _, _, _, _, _, _, _, _, _, _, _, _, _, _, _, _, rfl, rfl, hO, hSA, (hsA.2.1.trans hU), hUn, hSl, (⟨hsA.2.2.1.trans hPd.1, hPd.2⟩), (hsA.2.2.2.1.trans h18)⟩
      · show WW κ 0 0 [(a 0, mO a vA), (a 1, aI (kG κ) 800 gA1), (a 17, aI (kG κ) 12 gA17), (a 21, aI (kG κ) 12 gA21), (a 22, aI (kG κ) 12 gA22), (a 23, aI (kG κ) 12 gA23), (a 24, aI (kG κ) 12 gA24), (a 25, aI (kG κ) 12 gA25), (a 26, aI (kG κ) 12 gA26), (a 27, aI (kG κ) 12 gA27), (a 28, aI (kG κ) 12 gA28), (a 29, aZ (kG κ) 4 gA29), (a 31, aI (kG κ) 1300 gA31), (a 32, aI (kG κ) 1300 gA32), (a 33, aI (kG κ) 1300 gA33), (a 34, aI (kG κ) 1300 gA34), (a 35, aI (kG κ) 13000 gA35), (a 36, aI (kG κ) 606 gA36), (a 2, aI (kG κ) 800 gA2), (a 3, aI (kG κ) 4800 f3), (a 5, aI (kG κ) 1600 f5), (a 6, aZ (kG κ) 2 f6), (a 7, aI (kG κ) 60 f7), (a 37, aI (kG κ) 12 f37), (a 38, aI (kG κ) 12 f38), (a 41, aI (kG κ) 64 f41)] 48 [(7, .int (bC (rsn rA = 0))), (6, .int (nI 0)), (0, .ref (a 0)), (1, .int (nI jk)), (2, .int (nI jt)), (3, .int (nI jy)), (4, .int (nI jn)), (5, .int (nI 2))] []
        refine w_iload (nx := 50) C 7 dX9_tried_48 rfl rfl ?_
        refine w_tableIn (nx := 115) C dX9_tried_50 (by decide) (by decide) rfl rfl ?_
        refine w_aload_n (nx := 116) C 2 dX9_tried_115 rfl rfl rfl ?_
        refine w_getM (nx := 119) C (.int (vA 10)) 0 10 dX9_tried_116 rfl wl_X9_130 rfl (by decide) rfl (mg_10 _ _) ?_
        refine w_top (nI (rsB rA)) hVA.2.1 ?_
        refine ww_sel (l := [(a 0, mO a vA), (a 1, aI (kG κ) 800 gA1), (a 2, aI (kG κ) 800 gA2), (a 3, aI (kG κ) 4800 f3), (a 5, aI (kG κ) 1600 f5), (a 6, aZ (kG κ) 2 f6), (a 7, aI (kG κ) 60 f7), (a 17, aI (kG κ) 12 gA17), (a 21, aI (kG κ) 12 gA21), (a 22, aI (kG κ) 12 gA22), (a 23, aI (kG κ) 12 gA23), (a 24, aI (kG κ) 12 gA24), (a 25, aI (kG κ) 12 gA25), (a 26, aI (kG κ) 12 gA26), (a 27, aI (kG κ) 12 gA27), (a 28, aI (kG κ) 12 gA28), (a 29, aZ (kG κ) 4 gA29), (a 31, aI (kG κ) 1300 gA31), (a 32, aI (kG κ) 1300 gA32), (a 33, aI (kG κ) 1300 gA33), (a 34, aI (kG κ) 1300 gA34), (a 35, aI (kG κ) 13000 gA35), (a 36, aI (kG κ) 606 gA36), (a 37, aI (kG κ) 12 f37), (a 38, aI (kG κ) 12 f38), (a 41, aI (kG κ) 64 f41)]) (pm_sel [0, 1, 18, 19, 20, 21, 22, 2, 3, 4, 5, 6, 7, 8, 9, 10, 11, 12, 13, 14, 15, 16, 17, 23, 24, 25] 26 (by decide +kernel) rfl rfl) ?_
        have ho9 : o_tried X (nI jk) (nI jt) (nI jy) (nI jn) (nI 2) = ((nI (rsB rA)), X) := by unfold o_tried; rw [if_neg (fun z => z hoE), if_neg (fun z => z ⟨2, hjw, rfl⟩), tn_nI (show jk < 2 ^ 31 by omega), tn_nI (show jt < 2 ^ 31 by omega), tn_nI (show jy < 2 ^ 31 by omega), tn_nI (show jn < 2 ^ 31 by omega), tn_nI (by decide), her]; rfl
        refine w_iret (ty := .int) C E dX9_tried_119 rfl rfl (Nat.le_refl _) (Nat.le_refl _) ?_
        rw [ho9]
        exact ⟨_, rfl, rfl, _, _, _, _, _, _, _, _, _, _, _, _, _, _, _, _, _, _, _, _, _, _, _, _, _, _, _, rfl, rfl, hO, hSA, (hsA.2.1.trans hU), hUn, hSl, (⟨hsA.2.2.1.trans hPd.1, hPd.2⟩), (hsA.2.2.2.1.trans h18)⟩
      · show WW κ 0 0 [(a 0, mO a vA), (a 1, aI (kG κ) 800 gA1), (a 17, aI (kG κ) 12 gA17), (a 21, aI (kG κ) 12 gA21), (a 22, aI (kG κ) 12 gA22), (a 23, aI (kG κ) 12 gA23), (a 24, aI (kG κ) 12 gA24), (a 25, aI (kG κ) 12 gA25), (a 26, aI (kG κ) 12 gA26), (a 27, aI (kG κ) 12 gA27), (a 28, aI (kG κ) 12 gA28), (a 29, aZ (kG κ) 4 gA29), (a 31, aI (kG κ) 1300 gA31), (a 32, aI (kG κ) 1300 gA32), (a 33, aI (kG κ) 1300 gA33), (a 34, aI (kG κ) 1300 gA34), (a 35, aI (kG κ) 13000 gA35), (a 36, aI (kG κ) 606 gA36), (a 2, aI (kG κ) 800 gA2), (a 3, aI (kG κ) 4800 f3), (a 5, aI (kG κ) 1600 f5), (a 6, aZ (kG κ) 2 f6), (a 7, aI (kG κ) 60 f7), (a 37, aI (kG κ) 12 f37), (a 38, aI (kG κ) 12 f38), (a 41, aI (kG κ) 64 f41)] 48 [(7, .int (bC (rsn rA = 0))), (6, .int (nI 0)), (0, .ref (a 0)), (1, .int (nI jk)), (2, .int (nI jt)), (3, .int (nI jy)), (4, .int (nI jn)), (5, .int (nI 3))] []
        refine w_iload (nx := 50) C 7 dX9_tried_48 rfl rfl ?_
        refine w_tableIn (nx := 120) C dX9_tried_50 (by decide) (by decide) rfl rfl ?_
        refine w_aload_n (nx := 121) C 2 dX9_tried_120 rfl rfl rfl ?_
        refine w_getM (nx := 124) C (.int (vA 11)) 0 11 dX9_tried_121 rfl wl_X9_140 rfl (by decide) rfl (mg_11 _ _) ?_
        refine w_top (nI (rsL rA)) hVA.2.2.1 ?_
        refine ww_sel (l := [(a 0, mO a vA), (a 1, aI (kG κ) 800 gA1), (a 2, aI (kG κ) 800 gA2), (a 3, aI (kG κ) 4800 f3), (a 5, aI (kG κ) 1600 f5), (a 6, aZ (kG κ) 2 f6), (a 7, aI (kG κ) 60 f7), (a 17, aI (kG κ) 12 gA17), (a 21, aI (kG κ) 12 gA21), (a 22, aI (kG κ) 12 gA22), (a 23, aI (kG κ) 12 gA23), (a 24, aI (kG κ) 12 gA24), (a 25, aI (kG κ) 12 gA25), (a 26, aI (kG κ) 12 gA26), (a 27, aI (kG κ) 12 gA27), (a 28, aI (kG κ) 12 gA28), (a 29, aZ (kG κ) 4 gA29), (a 31, aI (kG κ) 1300 gA31), (a 32, aI (kG κ) 1300 gA32), (a 33, aI (kG κ) 1300 gA33), (a 34, aI (kG κ) 1300 gA34), (a 35, aI (kG κ) 13000 gA35), (a 36, aI (kG κ) 606 gA36), (a 37, aI (kG κ) 12 f37), (a 38, aI (kG κ) 12 f38), (a 41, aI (kG κ) 64 f41)]) (pm_sel [0, 1, 18, 19, 20, 21, 22, 2, 3, 4, 5, 6, 7, 8, 9, 10, 11, 12, 13, 14, 15, 16, 17, 23, 24, 25] 26 (by decide +kernel) rfl rfl) ?_
        have ho9 : o_tried X (nI jk) (nI jt) (nI jy) (nI jn) (nI 3) = ((nI (rsL rA)), X) := by unfold o_tried; rw [if_neg (fun z => z hoE), if_neg (fun z => z ⟨3, hjw, rfl⟩), tn_nI (show jk < 2 ^ 31 by omega), tn_nI (show jt < 2 ^ 31 by omega), tn_nI (show jy < 2 ^ 31 by omega), tn_nI (show jn < 2 ^ 31 by omega), tn_nI (by decide), her]; rfl
        refine w_iret (ty := .int) C E dX9_tried_124 rfl rfl (Nat.le_refl _) (Nat.le_refl _) ?_
        rw [ho9]
        exact ⟨_, rfl, rfl, _, _, _, _, _, _, _, _, _, _, _, _, _, _, _, _, _, _, _, _, _, _, _, _, _, _, _, rfl, rfl, hO, hSA, (hsA.2.1.trans hU), hUn, hSl, (⟨hsA.2.2.1.trans hPd.1, hPd.2⟩), (hsA.2.2.2.1.trans h18)⟩
      · show WW κ 0 0 [(a 0, mO a vA), (a 1, aI (kG κ) 800 gA1), (a 17, aI (kG κ) 12 gA17), (a 21, aI (kG κ) 12 gA21), (a 22, aI (kG κ) 12 gA22), (a 23, aI (kG κ) 12 gA23), (a 24, aI (kG κ) 12 gA24), (a 25, aI (kG κ) 12 gA25), (a 26, aI (kG κ) 12 gA26), (a 27, aI (kG κ) 12 gA27), (a 28, aI (kG κ) 12 gA28), (a 29, aZ (kG κ) 4 gA29), (a 31, aI (kG κ) 1300 gA31), (a 32, aI (kG κ) 1300 gA32), (a 33, aI (kG κ) 1300 gA33), (a 34, aI (kG κ) 1300 gA34), (a 35, aI (kG κ) 13000 gA35), (a 36, aI (kG κ) 606 gA36), (a 2, aI (kG κ) 800 gA2), (a 3, aI (kG κ) 4800 f3), (a 5, aI (kG κ) 1600 f5), (a 6, aZ (kG κ) 2 f6), (a 7, aI (kG κ) 60 f7), (a 37, aI (kG κ) 12 f37), (a 38, aI (kG κ) 12 f38), (a 41, aI (kG κ) 64 f41)] 48 [(7, .int (bC (rsn rA = 0))), (6, .int (nI 0)), (0, .ref (a 0)), (1, .int (nI jk)), (2, .int (nI jt)), (3, .int (nI jy)), (4, .int (nI jn)), (5, .int (nI 4))] []
        refine w_iload (nx := 50) C 7 dX9_tried_48 rfl rfl ?_
        refine w_tableIn (nx := 125) C dX9_tried_50 (by decide) (by decide) rfl rfl ?_
        refine w_aload_n (nx := 126) C 2 dX9_tried_125 rfl rfl rfl ?_
        refine w_getM (nx := 129) C (.int (vA 12)) 0 12 dX9_tried_126 rfl wl_X9_133 rfl (by decide) rfl (mg_12 _ _) ?_
        refine w_top (nI (rsP rA)) hdp ?_
        refine ww_sel (l := [(a 0, mO a vA), (a 1, aI (kG κ) 800 gA1), (a 2, aI (kG κ) 800 gA2), (a 3, aI (kG κ) 4800 f3), (a 5, aI (kG κ) 1600 f5), (a 6, aZ (kG κ) 2 f6), (a 7, aI (kG κ) 60 f7), (a 17, aI (kG κ) 12 gA17), (a 21, aI (kG κ) 12 gA21), (a 22, aI (kG κ) 12 gA22), (a 23, aI (kG κ) 12 gA23), (a 24, aI (kG κ) 12 gA24), (a 25, aI (kG κ) 12 gA25), (a 26, aI (kG κ) 12 gA26), (a 27, aI (kG κ) 12 gA27), (a 28, aI (kG κ) 12 gA28), (a 29, aZ (kG κ) 4 gA29), (a 31, aI (kG κ) 1300 gA31), (a 32, aI (kG κ) 1300 gA32), (a 33, aI (kG κ) 1300 gA33), (a 34, aI (kG κ) 1300 gA34), (a 35, aI (kG κ) 13000 gA35), (a 36, aI (kG κ) 606 gA36), (a 37, aI (kG κ) 12 f37), (a 38, aI (kG κ) 12 f38), (a 41, aI (kG κ) 64 f41)]) (pm_sel [0, 1, 18, 19, 20, 21, 22, 2, 3, 4, 5, 6, 7, 8, 9, 10, 11, 12, 13, 14, 15, 16, 17, 23, 24, 25] 26 (by decide +kernel) rfl rfl) ?_
        have ho9 : o_tried X (nI jk) (nI jt) (nI jy) (nI jn) (nI 4) = ((nI (rsP rA)), X) := by unfold o_tried; rw [if_neg (fun z => z hoE), if_neg (fun z => z ⟨4, hjw, rfl⟩), tn_nI (show jk < 2 ^ 31 by omega), tn_nI (show jt < 2 ^ 31 by omega), tn_nI (show jy < 2 ^ 31 by omega), tn_nI (show jn < 2 ^ 31 by omega), tn_nI (by decide), her]; rfl
        refine w_iret (ty := .int) C E dX9_tried_129 rfl rfl (Nat.le_refl _) (Nat.le_refl _) ?_
        rw [ho9]
        exact ⟨_, rfl, rfl, _, _, _, _, _, _, _, _, _, _, _, _, _, _, _, _, _, _, _, _, _, _, _, _, _, _, _, rfl, rfl, hO, hSA, (hsA.2.1.trans hU), hUn, hSl, (⟨hsA.2.2.1.trans hPd.1, hPd.2⟩), (hsA.2.2.2.1.trans h18)⟩
      · show WW κ 0 0 [(a 0, mO a vA), (a 1, aI (kG κ) 800 gA1), (a 17, aI (kG κ) 12 gA17), (a 21, aI (kG κ) 12 gA21), (a 22, aI (kG κ) 12 gA22), (a 23, aI (kG κ) 12 gA23), (a 24, aI (kG κ) 12 gA24), (a 25, aI (kG κ) 12 gA25), (a 26, aI (kG κ) 12 gA26), (a 27, aI (kG κ) 12 gA27), (a 28, aI (kG κ) 12 gA28), (a 29, aZ (kG κ) 4 gA29), (a 31, aI (kG κ) 1300 gA31), (a 32, aI (kG κ) 1300 gA32), (a 33, aI (kG κ) 1300 gA33), (a 34, aI (kG κ) 1300 gA34), (a 35, aI (kG κ) 13000 gA35), (a 36, aI (kG κ) 606 gA36), (a 2, aI (kG κ) 800 gA2), (a 3, aI (kG κ) 4800 f3), (a 5, aI (kG κ) 1600 f5), (a 6, aZ (kG κ) 2 f6), (a 7, aI (kG κ) 60 f7), (a 37, aI (kG κ) 12 f37), (a 38, aI (kG κ) 12 f38), (a 41, aI (kG κ) 64 f41)] 48 [(7, .int (bC (rsn rA = 0))), (6, .int (nI 0)), (0, .ref (a 0)), (1, .int (nI jk)), (2, .int (nI jt)), (3, .int (nI jy)), (4, .int (nI jn)), (5, .int (nI 5))] []
        refine w_iload (nx := 50) C 7 dX9_tried_48 rfl rfl ?_
        refine w_tableIn (nx := 130) C dX9_tried_50 (by decide) (by decide) rfl rfl ?_
        refine w_iload (nx := 132) C 0 dX9_tried_130 rfl rfl ?_
        refine b_if_eq (tg := 140) (nx := 135) C dX9_tried_132 rfl rfl (fun h_8 => ?_) (fun h_8 => ?_)
        · have hfl := h_8
          refine w_aload_n (nx := 141) C 2 dX9_tried_140 rfl rfl rfl ?_
          refine w_getM (nx := 144) C (.int (vA 14)) 0 14 dX9_tried_141 rfl wl_X9_117 rfl (by decide) rfl (mg_14 _ _) ?_
          refine w_top (nI ((rsF rA).2.1)) ((hVA.2.2.2.2.2.1 hfl).1) ?_
          refine ww_sel (l := [(a 0, mO a vA), (a 1, aI (kG κ) 800 gA1), (a 2, aI (kG κ) 800 gA2), (a 3, aI (kG κ) 4800 f3), (a 5, aI (kG κ) 1600 f5), (a 6, aZ (kG κ) 2 f6), (a 7, aI (kG κ) 60 f7), (a 17, aI (kG κ) 12 gA17), (a 21, aI (kG κ) 12 gA21), (a 22, aI (kG κ) 12 gA22), (a 23, aI (kG κ) 12 gA23), (a 24, aI (kG κ) 12 gA24), (a 25, aI (kG κ) 12 gA25), (a 26, aI (kG κ) 12 gA26), (a 27, aI (kG κ) 12 gA27), (a 28, aI (kG κ) 12 gA28), (a 29, aZ (kG κ) 4 gA29), (a 31, aI (kG κ) 1300 gA31), (a 32, aI (kG κ) 1300 gA32), (a 33, aI (kG κ) 1300 gA33), (a 34, aI (kG κ) 1300 gA34), (a 35, aI (kG κ) 13000 gA35), (a 36, aI (kG κ) 606 gA36), (a 37, aI (kG κ) 12 f37), (a 38, aI (kG κ) 12 f38), (a 41, aI (kG κ) 64 f41)]) (pm_sel [0, 1, 18, 19, 20, 21, 22, 2, 3, 4, 5, 6, 7, 8, 9, 10, 11, 12, 13, 14, 15, 16, 17, 23, 24, 25] 26 (by decide +kernel) rfl rfl) ?_
          have ho9 : o_tried X (nI jk) (nI jt) (nI jy) (nI jn) (nI 5) = ((nI ((rsF rA).2.1)), X) := by unfold o_tried; rw [if_neg (fun z => z hoE), if_neg (fun z => z ⟨5, hjw, rfl⟩), tn_nI (show jk < 2 ^ 31 by omega), tn_nI (show jt < 2 ^ 31 by omega), tn_nI (show jy < 2 ^ 31 by omega), tn_nI (show jn < 2 ^ 31 by omega), tn_nI (by decide), her]; rw [tv_5]; unfold ftb; rw [if_neg hfl]
          refine w_iret (ty := .int) C E dX9_tried_144 rfl rfl (Nat.le_refl _) (Nat.le_refl _) ?_
          rw [ho9]
          exact ⟨_, rfl, rfl, _, _, _, _, _, _, _, _, _, _, _, _, _, _, _, _, _, _, _, _, _, _, _, _, _, _, _, rfl, rfl, hO, hSA, (hsA.2.1.trans hU), hUn, hSl, (⟨hsA.2.2.1.trans hPd.1, hPd.2⟩), (hsA.2.2.2.1.trans h18)⟩
        · have hok := h_8
          refine w_bipush (nx := 137) C (-6) dX9_tried_135 rfl (by decide) ?_
          refine w_goto (nx := 144) C dX9_tried_137 rfl ?_
          refine ww_sel (l := [(a 0, mO a vA), (a 1, aI (kG κ) 800 gA1), (a 2, aI (kG κ) 800 gA2), (a 3, aI (kG κ) 4800 f3), (a 5, aI (kG κ) 1600 f5), (a 6, aZ (kG κ) 2 f6), (a 7, aI (kG κ) 60 f7), (a 17, aI (kG κ) 12 gA17), (a 21, aI (kG κ) 12 gA21), (a 22, aI (kG κ) 12 gA22), (a 23, aI (kG κ) 12 gA23), (a 24, aI (kG κ) 12 gA24), (a 25, aI (kG κ) 12 gA25), (a 26, aI (kG κ) 12 gA26), (a 27, aI (kG κ) 12 gA27), (a 28, aI (kG κ) 12 gA28), (a 29, aZ (kG κ) 4 gA29), (a 31, aI (kG κ) 1300 gA31), (a 32, aI (kG κ) 1300 gA32), (a 33, aI (kG κ) 1300 gA33), (a 34, aI (kG κ) 1300 gA34), (a 35, aI (kG κ) 13000 gA35), (a 36, aI (kG κ) 606 gA36), (a 37, aI (kG κ) 12 f37), (a 38, aI (kG κ) 12 f38), (a 41, aI (kG κ) 64 f41)]) (pm_sel [0, 1, 18, 19, 20, 21, 22, 2, 3, 4, 5, 6, 7, 8, 9, 10, 11, 12, 13, 14, 15, 16, 17, 23, 24, 25] 26 (by decide +kernel) rfl rfl) ?_
          have ho9 : o_tried X (nI jk) (nI jt) (nI jy) (nI jn) (nI 5) = ((-6), X) := by unfold o_tried; rw [if_neg (fun z => z hoE), if_neg (fun z => z ⟨5, hjw, rfl⟩), tn_nI (show jk < 2 ^ 31 by omega), tn_nI (show jt < 2 ^ 31 by omega), tn_nI (show jy < 2 ^ 31 by omega), tn_nI (show jn < 2 ^ 31 by omega), tn_nI (by decide), her]; rw [tv_5]; unfold ftb; rw [if_pos hok]
          refine w_iret (ty := .int) C E dX9_tried_144 rfl rfl (Nat.le_refl _) (Nat.le_refl _) ?_
          rw [ho9]
          exact ⟨_, rfl, rfl, _, _, _, _, _, _, _, _, _, _, _, _, _, _, _, _, _, _, _, _, _, _, _, _, _, _, _, rfl, rfl, hO, hSA, (hsA.2.1.trans hU), hUn, hSl, (⟨hsA.2.2.1.trans hPd.1, hPd.2⟩), (hsA.2.2.2.1.trans h18)⟩
      · show WW κ 0 0 [(a 0, mO a vA), (a 1, aI (kG κ) 800 gA1), (a 17, aI (kG κ) 12 gA17), (a 21, aI (kG κ) 12 gA21), (a 22, aI (kG κ) 12 gA22), (a 23, aI (kG κ) 12 gA23), (a 24, aI (kG κ) 12 gA24), (a 25, aI (kG κ) 12 gA25), (a 26, aI (kG κ) 12 gA26), (a 27, aI (kG κ) 12 gA27), (a 28, aI (kG κ) 12 gA28), (a 29, aZ (kG κ) 4 gA29), (a 31, aI (kG κ) 1300 gA31), (a 32, aI (kG κ) 1300 gA32), (a 33, aI (kG κ) 1300 gA33), (a 34, aI (kG κ) 1300 gA34), (a 35, aI (kG κ) 13000 gA35), (a 36, aI (kG κ) 606 gA36), (a 2, aI (kG κ) 800 gA2), (a 3, aI (kG κ) 4800 f3), (a 5, aI (kG κ) 1600 f5), (a 6, aZ (kG κ) 2 f6), (a 7, aI (kG κ) 60 f7), (a 37, aI (kG κ) 12 f37), (a 38, aI (kG κ) 12 f38), (a 41, aI (kG κ) 64 f41)] 48 [(7, .int (bC (rsn rA = 0))), (6, .int (nI 0)), (0, .ref (a 0)), (1, .int (nI jk)), (2, .int (nI jt)), (3, .int (nI jy)), (4, .int (nI jn)), (5, .int (nI 6))] []
        refine w_iload (nx := 50) C 7 dX9_tried_48 rfl rfl ?_
        refine w_tableIn (nx := 145) C dX9_tried_50 (by decide) (by decide) rfl rfl ?_
        refine w_iload (nx := 147) C 0 dX9_tried_145 rfl rfl ?_
        refine b_if_eq (tg := 155) (nx := 150) C dX9_tried_147 rfl rfl (fun h_9 => ?_) (fun h_9 => ?_)
        · have hfl := h_9
          refine w_aload_n (nx := 156) C 2 dX9_tried_155 rfl rfl rfl ?_
          refine w_getM (nx := 159) C (.int (vA 15)) 0 15 dX9_tried_156 rfl wl_X9_120 rfl (by decide) rfl (mg_15 _ _) ?_
          refine w_top (nI ((rsF rA).2.2.1)) ((hVA.2.2.2.2.2.1 hfl).2) ?_
          refine ww_sel (l := [(a 0, mO a vA), (a 1, aI (kG κ) 800 gA1), (a 2, aI (kG κ) 800 gA2), (a 3, aI (kG κ) 4800 f3), (a 5, aI (kG κ) 1600 f5), (a 6, aZ (kG κ) 2 f6), (a 7, aI (kG κ) 60 f7), (a 17, aI (kG κ) 12 gA17), (a 21, aI (kG κ) 12 gA21), (a 22, aI (kG κ) 12 gA22), (a 23, aI (kG κ) 12 gA23), (a 24, aI (kG κ) 12 gA24), (a 25, aI (kG κ) 12 gA25), (a 26, aI (kG κ) 12 gA26), (a 27, aI (kG κ) 12 gA27), (a 28, aI (kG κ) 12 gA28), (a 29, aZ (kG κ) 4 gA29), (a 31, aI (kG κ) 1300 gA31), (a 32, aI (kG κ) 1300 gA32), (a 33, aI (kG κ) 1300 gA33), (a 34, aI (kG κ) 1300 gA34), (a 35, aI (kG κ) 13000 gA35), (a 36, aI (kG κ) 606 gA36), (a 37, aI (kG κ) 12 f37), (a 38, aI (kG κ) 12 f38), (a 41, aI (kG κ) 64 f41)]) (pm_sel [0, 1, 18, 19, 20, 21, 22, 2, 3, 4, 5, 6, 7, 8, 9, 10, 11, 12, 13, 14, 15, 16, 17, 23, 24, 25] 26 (by decide +kernel) rfl rfl) ?_
          have ho9 : o_tried X (nI jk) (nI jt) (nI jy) (nI jn) (nI 6) = ((nI ((rsF rA).2.2.1)), X) := by unfold o_tried; rw [if_neg (fun z => z hoE), if_neg (fun z => z ⟨6, hjw, rfl⟩), tn_nI (show jk < 2 ^ 31 by omega), tn_nI (show jt < 2 ^ 31 by omega), tn_nI (show jy < 2 ^ 31 by omega), tn_nI (show jn < 2 ^ 31 by omega), tn_nI (by decide), her]; rw [tv_6]; unfold fky; rw [if_neg hfl]
          refine w_iret (ty := .int) C E dX9_tried_159 rfl rfl (Nat.le_refl _) (Nat.le_refl _) ?_
          rw [ho9]
          exact ⟨_, rfl, rfl, _, _, _, _, _, _, _, _, _, _, _, _, _, _, _, _, _, _, _, _, _, _, _, _, _, _, _, rfl, rfl, hO, hSA, (hsA.2.1.trans hU), hUn, hSl, (⟨hsA.2.2.1.trans hPd.1, hPd.2⟩), (hsA.2.2.2.1.trans h18)⟩
        · have hok := h_9
          refine w_bipush (nx := 152) C (-6) dX9_tried_150 rfl (by decide) ?_
          refine w_goto (nx := 159) C dX9_tried_152 rfl ?_
          refine ww_sel (l := [(a 0, mO a vA), (a 1, aI (kG κ) 800 gA1), (a 2, aI (kG κ) 800 gA2), (a 3, aI (kG κ) 4800 f3), (a 5, aI (kG κ) 1600 f5), (a 6, aZ (kG κ) 2 f6), (a 7, aI (kG κ) 60 f7), (a 17, aI (kG κ) 12 gA17), (a 21, aI (kG κ) 12 gA21), (a 22, aI (kG κ) 12 gA22), (a 23, aI (kG κ) 12 gA23), (a 24, aI (kG κ) 12 gA24), (a 25, aI (kG κ) 12 gA25), (a 26, aI (kG κ) 12 gA26), (a 27, aI (kG κ) 12 gA27), (a 28, aI (kG κ) 12 gA28), (a 29, aZ (kG κ) 4 gA29), (a 31, aI (kG κ) 1300 gA31), (a 32, aI (kG κ) 1300 gA32), (a 33, aI (kG κ) 1300 gA33), (a 34, aI (kG κ) 1300 gA34), (a 35, aI (kG κ) 13000 gA35), (a 36, aI (kG κ) 606 gA36), (a 37, aI (kG κ) 12 f37), (a 38, aI (kG κ) 12 f38), (a 41, aI (kG κ) 64 f41)]) (pm_sel [0, 1, 18, 19, 20, 21, 22, 2, 3, 4, 5, 6, 7, 8, 9, 10, 11, 12, 13, 14, 15, 16, 17, 23, 24, 25] 26 (by decide +kernel) rfl rfl) ?_
          have ho9 : o_tried X (nI jk) (nI jt) (nI jy) (nI jn) (nI 6) = ((-6), X) := by unfold o_tried; rw [if_neg (fun z => z hoE), if_neg (fun z => z ⟨6, hjw, rfl⟩), tn_nI (show jk < 2 ^ 31 by omega), tn_nI (show jt < 2 ^ 31 by omega), tn_nI (show jy < 2 ^ 31 by omega), tn_nI (show jn < 2 ^ 31 by omega), tn_nI (by decide), her]; rw [tv_6]; unfold fky; rw [if_pos hok]
          refine w_iret (ty := .int) C E dX9_tried_159 rfl rfl (Nat.le_refl _) (Nat.le_refl _) ?_
          rw [ho9]
          exact ⟨_, rfl, rfl, _, _, _, _, _, _, _, _, _, _, _, _, _, _, _, _, _, _, _, _, _, _, _, _, _, _, _, rfl, rfl, hO, hSA, (hsA.2.1.trans hU), hUn, hSl, (⟨hsA.2.2.1.trans hPd.1, hPd.2⟩), (hsA.2.2.2.1.trans h18)⟩
      · show WW κ 0 0 [(a 0, mO a vA), (a 1, aI (kG κ) 800 gA1), (a 17, aI (kG κ) 12 gA17), (a 21, aI (kG κ) 12 gA21), (a 22, aI (kG κ) 12 gA22), (a 23, aI (kG κ) 12 gA23), (a 24, aI (kG κ) 12 gA24), (a 25, aI (kG κ) 12 gA25), (a 26, aI (kG κ) 12 gA26), (a 27, aI (kG κ) 12 gA27), (a 28, aI (kG κ) 12 gA28), (a 29, aZ (kG κ) 4 gA29), (a 31, aI (kG κ) 1300 gA31), (a 32, aI (kG κ) 1300 gA32), (a 33, aI (kG κ) 1300 gA33), (a 34, aI (kG κ) 1300 gA34), (a 35, aI (kG κ) 13000 gA35), (a 36, aI (kG κ) 606 gA36), (a 2, aI (kG κ) 800 gA2), (a 3, aI (kG κ) 4800 f3), (a 5, aI (kG κ) 1600 f5), (a 6, aZ (kG κ) 2 f6), (a 7, aI (kG κ) 60 f7), (a 37, aI (kG κ) 12 f37), (a 38, aI (kG κ) 12 f38), (a 41, aI (kG κ) 64 f41)] 48 [(7, .int (bC (rsn rA = 0))), (6, .int (nI 0)), (0, .ref (a 0)), (1, .int (nI jk)), (2, .int (nI jt)), (3, .int (nI jy)), (4, .int (nI jn)), (5, .int (nI 7))] []
        refine w_iload (nx := 50) C 7 dX9_tried_48 rfl rfl ?_
        refine w_tableIn (nx := 160) C dX9_tried_50 (by decide) (by decide) rfl rfl ?_
        refine w_aload_n (nx := 161) C 2 dX9_tried_160 rfl rfl rfl ?_
        refine w_getM (nx := 164) C (.int (vA 16)) 0 16 dX9_tried_161 rfl wl_X9_123 rfl (by decide) rfl (mg_16 _ _) ?_
        refine w_top (nI ((rsF rA).2.2.2.length)) hVA.2.2.2.2.2.2.1 ?_
        refine ww_sel (l := [(a 0, mO a vA), (a 1, aI (kG κ) 800 gA1), (a 2, aI (kG κ) 800 gA2), (a 3, aI (kG κ) 4800 f3), (a 5, aI (kG κ) 1600 f5), (a 6, aZ (kG κ) 2 f6), (a 7, aI (kG κ) 60 f7), (a 17, aI (kG κ) 12 gA17), (a 21, aI (kG κ) 12 gA21), (a 22, aI (kG κ) 12 gA22), (a 23, aI (kG κ) 12 gA23), (a 24, aI (kG κ) 12 gA24), (a 25, aI (kG κ) 12 gA25), (a 26, aI (kG κ) 12 gA26), (a 27, aI (kG κ) 12 gA27), (a 28, aI (kG κ) 12 gA28), (a 29, aZ (kG κ) 4 gA29), (a 31, aI (kG κ) 1300 gA31), (a 32, aI (kG κ) 1300 gA32), (a 33, aI (kG κ) 1300 gA33), (a 34, aI (kG κ) 1300 gA34), (a 35, aI (kG κ) 13000 gA35), (a 36, aI (kG κ) 606 gA36), (a 37, aI (kG κ) 12 f37), (a 38, aI (kG κ) 12 f38), (a 41, aI (kG κ) 64 f41)]) (pm_sel [0, 1, 18, 19, 20, 21, 22, 2, 3, 4, 5, 6, 7, 8, 9, 10, 11, 12, 13, 14, 15, 16, 17, 23, 24, 25] 26 (by decide +kernel) rfl rfl) ?_
        have ho9 : o_tried X (nI jk) (nI jt) (nI jy) (nI jn) (nI 7) = ((nI ((rsF rA).2.2.2.length)), X) := by unfold o_tried; rw [if_neg (fun z => z hoE), if_neg (fun z => z ⟨7, hjw, rfl⟩), tn_nI (show jk < 2 ^ 31 by omega), tn_nI (show jt < 2 ^ 31 by omega), tn_nI (show jy < 2 ^ 31 by omega), tn_nI (show jn < 2 ^ 31 by omega), tn_nI (by decide), her]; rfl
        refine w_iret (ty := .int) C E dX9_tried_164 rfl rfl (Nat.le_refl _) (Nat.le_refl _) ?_
        rw [ho9]
        exact ⟨_, rfl, rfl, _, _, _, _, _, _, _, _, _, _, _, _, _, _, _, _, _, _, _, _, _, _, _, _, _, _, _, rfl, rfl, hO, hSA, (hsA.2.1.trans hU), hUn, hSl, (⟨hsA.2.2.1.trans hPd.1, hPd.2⟩), (hsA.2.2.2.1.trans h18)⟩
      · skip
        refine w_iload (nx := 50) C 7 dX9_tried_48 rfl rfl ?_
        refine w_tableOut (nx := 165) C dX9_tried_50 (sw_out8 hj8 (by omega)) rfl ?_
        refine w_iload (nx := 167) C 7 dX9_tried_165 rfl rfl ?_
        refine w_bipush (nx := 169) C (nI 8) dX9_tried_167 rfl (by decide) ?_
        refine w_isub (nx := 170) C (nI (jw - 8)) dX9_tried_169 rfl (pk_sub (by omega)) ?_
        refine w_aload_n (nx := 171) C 2 dX9_tried_170 rfl rfl rfl ?_
        refine w_getM (nx := 174) C (.int (vA 16)) 0 16 dX9_tried_171 rfl wl_X9_123 rfl (by decide) rfl (mg_16 _ _) ?_
        refine w_top (nI ((rsF rA).2.2.2.length)) hVA.2.2.2.2.2.2.1 ?_
        refine n_icmp_ge (tg := 190) (nx := 177) C dX9_tried_174 rfl rfl (by omega) (by omega) (fun h_10 => ?_) (fun h_10 => ?_)
        · have hlen : ¬ jw - 8 < (rsF rA).2.2.2.length := by omega
          refine w_bipush (nx := 192) C (-6) dX9_tried_190 rfl (by decide) ?_
          refine ww_sel (l := [(a 0, mO a vA), (a 1, aI (kG κ) 800 gA1), (a 2, aI (kG κ) 800 gA2), (a 3, aI (kG κ) 4800 f3), (a 5, aI (kG κ) 1600 f5), (a 6, aZ (kG κ) 2 f6), (a 7, aI (kG κ) 60 f7), (a 17, aI (kG κ) 12 gA17), (a 21, aI (kG κ) 12 gA21), (a 22, aI (kG κ) 12 gA22), (a 23, aI (kG κ) 12 gA23), (a 24, aI (kG κ) 12 gA24), (a 25, aI (kG κ) 12 gA25), (a 26, aI (kG κ) 12 gA26), (a 27, aI (kG κ) 12 gA27), (a 28, aI (kG κ) 12 gA28), (a 29, aZ (kG κ) 4 gA29), (a 31, aI (kG κ) 1300 gA31), (a 32, aI (kG κ) 1300 gA32), (a 33, aI (kG κ) 1300 gA33), (a 34, aI (kG κ) 1300 gA34), (a 35, aI (kG κ) 13000 gA35), (a 36, aI (kG κ) 606 gA36), (a 37, aI (kG κ) 12 f37), (a 38, aI (kG κ) 12 f38), (a 41, aI (kG κ) 64 f41)]) (pm_sel [0, 1, 18, 19, 20, 21, 22, 2, 3, 4, 5, 6, 7, 8, 9, 10, 11, 12, 13, 14, 15, 16, 17, 23, 24, 25] 26 (by decide +kernel) rfl rfl) ?_
          have ho9 : o_tried X (nI jk) (nI jt) (nI jy) (nI jn) (nI jw) = ((-6), X) := by unfold o_tried; rw [if_neg (fun z => z hoE), if_neg (fun z => z ⟨jw, hjw, rfl⟩), tn_nI (show jk < 2 ^ 31 by omega), tn_nI (show jt < 2 ^ 31 by omega), tn_nI (show jy < 2 ^ 31 by omega), tn_nI (show jn < 2 ^ 31 by omega), tn_nI (show jw < 2 ^ 31 by omega), her]; rw [tval_8 hj8 h17A, if_neg hlen]
          refine w_iret (ty := .int) C E dX9_tried_192 rfl rfl (Nat.le_refl _) (Nat.le_refl _) ?_
          rw [ho9]
          exact ⟨_, rfl, rfl, _, _, _, _, _, _, _, _, _, _, _, _, _, _, _, _, _, _, _, _, _, _, _, _, _, _, _, rfl, rfl, hO, hSA, (hsA.2.1.trans hU), hUn, hSl, (⟨hsA.2.2.1.trans hPd.1, hPd.2⟩), (hsA.2.2.2.1.trans h18)⟩
        · have hlen : jw - 8 < (rsF rA).2.2.2.length := by omega
          refine w_aload_n (nx := 178) C 2 dX9_tried_177 rfl rfl rfl ?_
          refine w_getM (nx := 181) C (.ref (a 17)) 0 17 dX9_tried_178 rfl wl_X9_29 rfl (by decide) rfl (mg_17 _ _) ?_
          refine w_iload (nx := 183) C 7 dX9_tried_181 rfl rfl ?_
          refine w_bipush (nx := 185) C (nI 8) dX9_tried_183 rfl (by decide) ?_
          refine w_isub (nx := 186) C (nI (jw - 8)) dX9_tried_185 rfl (pk_sub (by omega)) ?_
          refine w_iald (nx := 187) C (gA17 (jw - 8)) 2 (jw - 8) dX9_tried_186 rfl rfl (by decide) rfl (by omega) rfl ?_
          refine w_goto (nx := 192) C dX9_tried_187 rfl ?_
          refine ww_sel (l := [(a 0, mO a vA), (a 1, aI (kG κ) 800 gA1), (a 2, aI (kG κ) 800 gA2), (a 3, aI (kG κ) 4800 f3), (a 5, aI (kG κ) 1600 f5), (a 6, aZ (kG κ) 2 f6), (a 7, aI (kG κ) 60 f7), (a 17, aI (kG κ) 12 gA17), (a 21, aI (kG κ) 12 gA21), (a 22, aI (kG κ) 12 gA22), (a 23, aI (kG κ) 12 gA23), (a 24, aI (kG κ) 12 gA24), (a 25, aI (kG κ) 12 gA25), (a 26, aI (kG κ) 12 gA26), (a 27, aI (kG κ) 12 gA27), (a 28, aI (kG κ) 12 gA28), (a 29, aZ (kG κ) 4 gA29), (a 31, aI (kG κ) 1300 gA31), (a 32, aI (kG κ) 1300 gA32), (a 33, aI (kG κ) 1300 gA33), (a 34, aI (kG κ) 1300 gA34), (a 35, aI (kG κ) 13000 gA35), (a 36, aI (kG κ) 606 gA36), (a 37, aI (kG κ) 12 f37), (a 38, aI (kG κ) 12 f38), (a 41, aI (kG κ) 64 f41)]) (pm_sel [0, 1, 18, 19, 20, 21, 22, 2, 3, 4, 5, 6, 7, 8, 9, 10, 11, 12, 13, 14, 15, 16, 17, 23, 24, 25] 26 (by decide +kernel) rfl rfl) ?_
          have ho9 : o_tried X (nI jk) (nI jt) (nI jy) (nI jn) (nI jw) = ((gA17 (jw - 8)), X) := by unfold o_tried; rw [if_neg (fun z => z hoE), if_neg (fun z => z ⟨jw, hjw, rfl⟩), tn_nI (show jk < 2 ^ 31 by omega), tn_nI (show jt < 2 ^ 31 by omega), tn_nI (show jy < 2 ^ 31 by omega), tn_nI (show jn < 2 ^ 31 by omega), tn_nI (show jw < 2 ^ 31 by omega), her]; rw [tval_8 hj8 h17A, if_pos hlen]
          refine w_iret (ty := .int) C E dX9_tried_192 rfl rfl (Nat.le_refl _) (Nat.le_refl _) ?_
          rw [ho9]
          exact ⟨_, rfl, rfl, _, _, _, _, _, _, _, _, _, _, _, _, _, _, _, _, _, _, _, _, _, _, _, _, _, _, _, rfl, rfl, hO, hSA, (hsA.2.1.trans hU), hUn, hSl, (⟨hsA.2.2.1.trans hPd.1, hPd.2⟩), (hsA.2.2.2.1.trans h18)⟩
    · have hno := h_5
      refine w_bipush (nx := 36) C (-2) dX9_tried_34 rfl (by decide) ?_
      have ho9 : o_tried X (nI jk) (nI jt) (nI jy) (nI jn) qw = ((-2), X) := by unfold o_tried; rw [if_neg (fun z => z hoE), if_pos hno]
      refine w_iret (ty := .int) C E dX9_tried_36 rfl rfl (Nat.le_refl _) (Nat.le_refl _) ?_
      rw [ho9]
      exact ⟨_, rfl, rfl, _, _, _, _, _, _, _, _, _, _, _, _, _, _, _, _, _, _, _, _, _, _, _, _, _, _, _, rfl, rfl, hO, hS, hU, hUn, hSl, hPd, h18⟩
set_option maxHeartbeats 4000000 in
set_option maxRecDepth 100000 in
theorem c_X9_culprits (l : Launch) (G : GG) (h : Nat) (w : va_W) (X : SX) (qk : Int32) (qt : Int32) (qy : Int32) (qn : Int32) (hRX : RMX G h w X) : MT l G yX9_culprits cX9_culprits 8 (some .int) 11 0 0 [.ref h, .int qk, .int qt, .int qy, .int qn] ((w)) (fun v9 ws9 => ∃ (w2 : va_W), v9 = some (.int ((o_culprits X qk qt qy qn).1)) ∧ ws9 = ((w2)) ∧ RMX G h w2 (o_culprits X qk qt qy qn).2) := by
  refine RMX_elim hRX (fun a v f1 f2 f3 f5 f6 f7 f17 f21 f22 f23 f24 f25 f26 f27 f28 f29 f31 f32 f33 f34 f35 f36 f37 f38 f41 hw9 hh hO hS hU hUn hSl hPd h18 => ?_)
  subst hw9
  subst hh
  refine MT.of RX9 [(0, .ref (a 0)), (1, .int qk), (2, .int qt), (3, .int qy), (4, .int qn)] (by decide +kernel) rfl rfl (Nat.le_of_ble_eq_true rfl) (fun κ C E hl9 hG9 hnm9 => ?_)
  subst hl9; subst hG9
  have hn12 := hO.1.2.2.2.1.1
  have hj100 := hO.1.2.2.2.2
  have hz6 := hO.2.1.1
  have hp60 := hO.2.2.2.1
  have hd8 := hO.1.1
  have hl1 := hO.1.2.1
  have hzT := hO.1.2.2.1
  refine w_aload_n (nx := 1) C 0 dX9_culprits_0 rfl rfl rfl ?_
  refine w_iconst (nx := 2) C (nI 0) dX9_culprits_1 rfl (by decide) ?_
  refine w_putM (nx := 5) (ws2 := [(a 0, mO a (upd v 0 (nI 0))), (a 1, aI (kG κ) 800 f1), (a 2, aI (kG κ) 800 f2), (a 3, aI (kG κ) 4800 f3), (a 5, aI (kG κ) 1600 f5), (a 6, aZ (kG κ) 2 f6), (a 7, aI (kG κ) 60 f7), (a 17, aI (kG κ) 12 f17), (a 21, aI (kG κ) 12 f21), (a 22, aI (kG κ) 12 f22), (a 23, aI (kG κ) 12 f23), (a 24, aI (kG κ) 12 f24), (a 25, aI (kG κ) 12 f25), (a 26, aI (kG κ) 12 f26), (a 27, aI (kG κ) 12 f27), (a 28, aI (kG κ) 12 f28), (a 29, aZ (kG κ) 4 f29), (a 31, aI (kG κ) 1300 f31), (a 32, aI (kG κ) 1300 f32), (a 33, aI (kG κ) 1300 f33), (a 34, aI (kG κ) 1300 f34), (a 35, aI (kG κ) 13000 f35), (a 36, aI (kG κ) 606 f36), (a 37, aI (kG κ) 12 f37), (a 38, aI (kG κ) 12 f38), (a 41, aI (kG κ) 64 f41)]) C 0 0 dX9_culprits_2 rfl wl_X9_90 rfl (by decide) rfl rfl rfl (ms_0 _ _ _) rfl ?_
  refine w_iload_n (nx := 6) C 1 dX9_culprits_5 rfl rfl rfl ?_
  refine w_iload_n (nx := 7) C 2 dX9_culprits_6 rfl rfl rfl ?_
  refine w_iload_n (nx := 8) C 3 dX9_culprits_7 rfl rfl rfl ?_
  refine w_iload (nx := 10) C 4 dX9_culprits_8 rfl rfl ?_
  refine w_callS (nx := 13) (wr := [(a 0, mO a (upd v 0 (nI 0))), (a 1, aI (kG κ) 800 f1), (a 2, aI (kG κ) 800 f2), (a 3, aI (kG κ) 4800 f3), (a 5, aI (kG κ) 1600 f5), (a 6, aZ (kG κ) 2 f6), (a 7, aI (kG κ) 60 f7), (a 17, aI (kG κ) 12 f17), (a 21, aI (kG κ) 12 f21), (a 22, aI (kG κ) 12 f22), (a 23, aI (kG κ) 12 f23), (a 24, aI (kG κ) 12 f24), (a 25, aI (kG κ) 12 f25), (a 26, aI (kG κ) 12 f26), (a 27, aI (kG κ) 12 f27), (a 28, aI (kG κ) 12 f28), (a 29, aZ (kG κ) 4 f29), (a 31, aI (kG κ) 1300 f31), (a 32, aI (kG κ) 1300 f32), (a 33, aI (kG κ) 1300 f33), (a 34, aI (kG κ) 1300 f34), (a 35, aI (kG κ) 13000 f35), (a 36, aI (kG κ) 606 f36), (a 37, aI (kG κ) 12 f37), (a 38, aI (kG κ) 12 f38), (a 41, aI (kG κ) 64 f41)]) (rest := []) C ms_X9_refuses (c_X9_refuses _ _ qk qt qy qn) dX9_culprits_10 rfl wl_X9_211 rfl (pm_sel [0, 1, 2, 3, 4, 5, 6, 7, 8, 9, 10, 11, 12, 13, 14, 15, 16, 17, 18, 19, 20, 21, 22, 23, 24, 25] 26 (by decide +kernel) rfl rfl) rfl rfl (Nat.le_of_ble_eq_true rfl) (Nat.le_of_ble_eq_true rfl) (Nat.le_of_ble_eq_true rfl) (Nat.zero_le _) (Nat.zero_le _) (fun v9 w9 R_1 => ?_)
  rcases R_1 with ⟨ve, rfl, rfl, hv0, hoE⟩ | ⟨jk, jt, jy, jn, rfl, rfl, ee1, ee2, ee3, ee4, hoE, hjk, hjt, hjy, hjn⟩
  · show WW κ 0 0 [(a 0, mO a (upd v 0 (nI 0))), (a 1, aI (kG κ) 800 f1), (a 2, aI (kG κ) 800 f2), (a 3, aI (kG κ) 4800 f3), (a 5, aI (kG κ) 1600 f5), (a 6, aZ (kG κ) 2 f6), (a 7, aI (kG κ) 60 f7), (a 17, aI (kG κ) 12 f17), (a 21, aI (kG κ) 12 f21), (a 22, aI (kG κ) 12 f22), (a 23, aI (kG κ) 12 f23), (a 24, aI (kG κ) 12 f24), (a 25, aI (kG κ) 12 f25), (a 26, aI (kG κ) 12 f26), (a 27, aI (kG κ) 12 f27), (a 28, aI (kG κ) 12 f28), (a 29, aZ (kG κ) 4 f29), (a 31, aI (kG κ) 1300 f31), (a 32, aI (kG κ) 1300 f32), (a 33, aI (kG κ) 1300 f33), (a 34, aI (kG κ) 1300 f34), (a 35, aI (kG κ) 13000 f35), (a 36, aI (kG κ) 606 f36), (a 37, aI (kG κ) 12 f37), (a 38, aI (kG κ) 12 f38), (a 41, aI (kG κ) 64 f41)] 13 [(0, .ref (a 0)), (1, .int qk), (2, .int qt), (3, .int qy), (4, .int qn)] [.int ve]
    refine w_istore (nx := 15) (lo2 := [(5, .int ve), (0, .ref (a 0)), (1, .int qk), (2, .int qt), (3, .int qy), (4, .int qn)]) C dX9_culprits_13 rfl (by decide) rfl ?_
    refine w_iload (nx := 17) C 0 dX9_culprits_15 rfl rfl ?_
    refine w_if_eq (tg := 23) (nx := 20) C dX9_culprits_17 rfl rfl (fun h_2 => ?_) (fun h_2 => ?_)
    · exact absurd h_2 hv0
    · refine w_iload (nx := 22) C 0 dX9_culprits_20 rfl rfl ?_
      have ho9 : o_culprits X qk qt qy qn = (ve, X) := by unfold o_culprits; rw [hoE, if_pos hv0]
      refine w_iret (ty := .int) C E dX9_culprits_22 rfl rfl (Nat.le_refl _) (Nat.le_refl _) ?_
      rw [ho9]
      exact ⟨_, rfl, rfl, _, _, _, _, _, _, _, _, _, _, _, _, _, _, _, _, _, _, _, _, _, _, _, _, _, _, _, rfl, rfl, hO, hS, hU, hUn, hSl, hPd, h18⟩
  · show WW κ 0 0 [(a 0, mO a (upd v 0 (nI 0))), (a 1, aI (kG κ) 800 f1), (a 2, aI (kG κ) 800 f2), (a 3, aI (kG κ) 4800 f3), (a 5, aI (kG κ) 1600 f5), (a 6, aZ (kG κ) 2 f6), (a 7, aI (kG κ) 60 f7), (a 17, aI (kG κ) 12 f17), (a 21, aI (kG κ) 12 f21), (a 22, aI (kG κ) 12 f22), (a 23, aI (kG κ) 12 f23), (a 24, aI (kG κ) 12 f24), (a 25, aI (kG κ) 12 f25), (a 26, aI (kG κ) 12 f26), (a 27, aI (kG κ) 12 f27), (a 28, aI (kG κ) 12 f28), (a 29, aZ (kG κ) 4 f29), (a 31, aI (kG κ) 1300 f31), (a 32, aI (kG κ) 1300 f32), (a 33, aI (kG κ) 1300 f33), (a 34, aI (kG κ) 1300 f34), (a 35, aI (kG κ) 13000 f35), (a 36, aI (kG κ) 606 f36), (a 37, aI (kG κ) 12 f37), (a 38, aI (kG κ) 12 f38), (a 41, aI (kG κ) 64 f41)] 13 [(0, .ref (a 0)), (1, .int qk), (2, .int qt), (3, .int qy), (4, .int qn)] [.int (nI 0)]
    subst ee1; subst ee2; subst ee3; subst ee4
    refine w_istore (nx := 15) (lo2 := [(5, .int (nI 0)), (0, .ref (a 0)), (1, .int (nI jk)), (2, .int (nI jt)), (3, .int (nI jy)), (4, .int (nI jn))]) C dX9_culprits_13 rfl (by decide) rfl ?_
    refine w_iload (nx := 17) C 0 dX9_culprits_15 rfl rfl ?_
    refine w_if_eq (tg := 23) (nx := 20) C dX9_culprits_17 rfl rfl (fun _ => ?_) (fun q9 => absurd (by decide) q9)
    refine w_aload_n (nx := 24) C 1 dX9_culprits_23 rfl rfl rfl ?_
    refine w_iload_n (nx := 25) C 2 dX9_culprits_24 rfl rfl rfl ?_
    refine w_iload_n (nx := 26) C 3 dX9_culprits_25 rfl rfl rfl ?_
    refine w_iload_n (nx := 27) C 4 dX9_culprits_26 rfl rfl rfl ?_
    refine w_iload (nx := 29) C 5 dX9_culprits_27 rfl rfl ?_
    refine w_callV (nx := 32) (wr := [(a 3, aI (kG κ) 4800 f3), (a 5, aI (kG κ) 1600 f5), (a 6, aZ (kG κ) 2 f6), (a 7, aI (kG κ) 60 f7), (a 37, aI (kG κ) 12 f37), (a 38, aI (kG κ) 12 f38), (a 41, aI (kG κ) 64 f41)]) (rest := []) C mi_X9_tries (c_X9_tries _ _ a (upd v 0 (nI 0)) f1 f17 f21 f22 f23 f24 f25 f26 f27 f28 f29 f31 f32 f33 f34 f35 f36 f2 (xS X) 99 (-6) jk jt jy jn (hO.1) (hS) (wo_6) (h18) (by first | assumption | omega) (by first | assumption | omega) (by first | assumption | omega) (by first | assumption | omega)) 0 dX9_culprits_29 rfl wl_X9_215 rfl rfl rfl (pm_sel [0, 1, 7, 8, 9, 10, 11, 12, 13, 14, 15, 16, 17, 18, 19, 20, 21, 22, 2, 3, 4, 5, 6, 23, 24, 25] 26 (by decide +kernel) rfl rfl) rfl rfl (Nat.le_of_ble_eq_true rfl) (Nat.le_of_ble_eq_true rfl) (Nat.le_of_ble_eq_true rfl) (Nat.zero_le _) (Nat.zero_le _) (fun v9 w9 R_4 => ?_)
    obtain ⟨rA, vA, gA1, gA17, gA21, gA22, gA23, gA24, gA25, gA26, gA27, gA28, gA29, gA31, gA32, gA33, gA34, gA35, gA36, gA2, rfl, rfl, heA, hsA, hVA, h17A, hXA, hSA⟩ := R_4
    show WW κ 0 0 [(a 0, mO a vA), (a 1, aI (kG κ) 800 gA1), (a 17, aI (kG κ) 12 gA17), (a 21, aI (kG κ) 12 gA21), (a 22, aI (kG κ) 12 gA22), (a 23, aI (kG κ) 12 gA23), (a 24, aI (kG κ) 12 gA24), (a 25, aI (kG κ) 12 gA25), (a 26, aI (kG κ) 12 gA26), (a 27, aI (kG κ) 12 gA27), (a 28, aI (kG κ) 12 gA28), (a 29, aZ (kG κ) 4 gA29), (a 31, aI (kG κ) 1300 gA31), (a 32, aI (kG κ) 1300 gA32), (a 33, aI (kG κ) 1300 gA33), (a 34, aI (kG κ) 1300 gA34), (a 35, aI (kG κ) 13000 gA35), (a 36, aI (kG κ) 606 gA36), (a 2, aI (kG κ) 800 gA2), (a 3, aI (kG κ) 4800 f3), (a 5, aI (kG κ) 1600 f5), (a 6, aZ (kG κ) 2 f6), (a 7, aI (kG κ) 60 f7), (a 37, aI (kG κ) 12 f37), (a 38, aI (kG κ) 12 f38), (a 41, aI (kG κ) 64 f41)] 32 [(5, .int (nI 0)), (0, .ref (a 0)), (1, .int (nI jk)), (2, .int (nI jt)), (3, .int (nI jy)), (4, .int (nI jn))] [.int (bC (rsn rA = 0))]
    have her : rnS (xS X) (sD (xS X)) 99 jk jt jy jn = rA := heA.symm
    refine b_if_eq (tg := 38) (nx := 35) C dX9_culprits_32 rfl rfl (fun h_5 => ?_) (fun h_5 => ?_)
    · have hfl := h_5
      refine w_iconst (nx := 39) C (nI 0) dX9_culprits_38 rfl (by decide) ?_
      refine w_istore (nx := 41) (lo2 := [(6, .int (nI 0)), (5, .int (nI 0)), (0, .ref (a 0)), (1, .int (nI jk)), (2, .int (nI jt)), (3, .int (nI jy)), (4, .int (nI jn))]) C dX9_culprits_39 rfl (by decide) rfl ?_
      refine w_iconst (nx := 42) C (nI 0) dX9_culprits_41 rfl (by decide) ?_
      refine w_istore (nx := 44) (lo2 := [(7, .int (nI 0)), (6, .int (nI 0)), (5, .int (nI 0)), (0, .ref (a 0)), (1, .int (nI jk)), (2, .int (nI jt)), (3, .int (nI jy)), (4, .int (nI jn))]) C dX9_culprits_42 rfl (by decide) rfl ?_
      have LP_6 : ∀ (N9_44 : Nat) (k : Nat) (vv : Nat → Int32) (k1 : Nat → Int32) (k17 : Nat → Int32) (k21 : Nat → Int32) (k22 : Nat → Int32) (k23 : Nat → Int32) (k24 : Nat → Int32) (k25 : Nat → Int32) (k26 : Nat → Int32) (k27 : Nat → Int32) (k28 : Nat → Int32) (k29 : Nat → Int32) (k31 : Nat → Int32) (k32 : Nat → Int32) (k33 : Nat → Int32) (k34 : Nat → Int32) (k35 : Nat → Int32) (k36 : Nat → Int32) (k2 : Nat → Int32), (k ≤ (sR (xS X)).1) → (rMS k1 (xS X)) → (vv 4 = nI (xH X).1) → (vv 8 = nI (xP X).1) → ((sR (xS X)).1 - k) < N9_44 → WW κ 0 0 [(a 0, mO a vv), (a 1, aI (kG κ) 800 k1), (a 2, aI (kG κ) 800 k2), (a 3, aI (kG κ) 4800 f3), (a 5, aI (kG κ) 1600 f5), (a 6, aZ (kG κ) 2 f6), (a 7, aI (kG κ) 60 f7), (a 17, aI (kG κ) 12 k17), (a 21, aI (kG κ) 12 k21), (a 22, aI (kG κ) 12 k22), (a 23, aI (kG κ) 12 k23), (a 24, aI (kG κ) 12 k24), (a 25, aI (kG κ) 12 k25), (a 26, aI (kG κ) 12 k26), (a 27, aI (kG κ) 12 k27), (a 28, aI (kG κ) 12 k28), (a 29, aZ (kG κ) 4 k29), (a 31, aI (kG κ) 1300 k31), (a 32, aI (kG κ) 1300 k32), (a 33, aI (kG κ) 1300 k33), (a 34, aI (kG κ) 1300 k34), (a 35, aI (kG κ) 13000 k35), (a 36, aI (kG κ) 606 k36), (a 37, aI (kG κ) 12 f37), (a 38, aI (kG κ) 12 f38), (a 41, aI (kG κ) 64 f41)] 44 [(0, .ref (a 0)), (1, .int (nI jk)), (2, .int (nI jt)), (3, .int (nI jy)), (4, .int (nI jn)), (5, .int (nI 0)), (6, .int (nI (culN (fun i => rsn (rnS (xS X) (sD (xS X)) i jk jt jy jn) = 0) k))), (7, .int (nI k))] [] := by
        intro N9_44
        induction N9_44 with
        | zero => intro k vv k1 k17 k21 k22 k23 k24 k25 k26 k27 k28 k29 k31 k32 k33 k34 k35 k36 k2 hk hS1 hU1 hP1 hm9_44; exact absurd hm9_44 (Nat.not_lt_zero _)
        | succ N9_44 ih9_44 =>
          intro k vv k1 k17 k21 k22 k23 k24 k25 k26 k27 k28 k29 k31 k32 k33 k34 k35 k36 k2 hk hS1 hU1 hP1 hm9_44
          refine w_iload (nx := 46) C 7 dX9_culprits_44 rfl rfl ?_
          refine w_aload_n (nx := 47) C 0 dX9_culprits_46 rfl rfl rfl ?_
          refine w_getM (nx := 50) C (.ref (a 1)) 0 1 dX9_culprits_47 rfl wl_X9_7 rfl (by decide) rfl (mg_1 _ _) ?_
          refine w_bipush (nx := 52) C (nI 102) dX9_culprits_50 rfl (by decide) ?_
          refine w_iald (nx := 53) C (nI ((sR (xS X)).1)) 1 102 dX9_culprits_52 rfl rfl (by decide) rfl (by omega) hS1.2.2.2.1.1 ?_
          refine n_icmp_ge (tg := 93) (nx := 56) C dX9_culprits_53 rfl rfl (by omega) (by omega) (fun h_7 => ?_) (fun h_7 => ?_)
          · have e9 : k = (sR (xS X)).1 := by omega
            refine w_aload_n (nx := 94) C 0 dX9_culprits_93 rfl rfl rfl ?_
            refine w_bipush (nx := 96) C (-6) dX9_culprits_94 rfl (by decide) ?_
            refine w_putM (nx := 99) (ws2 := [(a 0, mO a (upd vv 18 (-6))), (a 1, aI (kG κ) 800 k1), (a 2, aI (kG κ) 800 k2), (a 3, aI (kG κ) 4800 f3), (a 5, aI (kG κ) 1600 f5), (a 6, aZ (kG κ) 2 f6), (a 7, aI (kG κ) 60 f7), (a 17, aI (kG κ) 12 k17), (a 21, aI (kG κ) 12 k21), (a 22, aI (kG κ) 12 k22), (a 23, aI (kG κ) 12 k23), (a 24, aI (kG κ) 12 k24), (a 25, aI (kG κ) 12 k25), (a 26, aI (kG κ) 12 k26), (a 27, aI (kG κ) 12 k27), (a 28, aI (kG κ) 12 k28), (a 29, aZ (kG κ) 4 k29), (a 31, aI (kG κ) 1300 k31), (a 32, aI (kG κ) 1300 k32), (a 33, aI (kG κ) 1300 k33), (a 34, aI (kG κ) 1300 k34), (a 35, aI (kG κ) 13000 k35), (a 36, aI (kG κ) 606 k36), (a 37, aI (kG κ) 12 f37), (a 38, aI (kG κ) 12 f38), (a 41, aI (kG κ) 64 f41)]) C 0 18 dX9_culprits_96 rfl wl_X9_32 rfl (by decide) rfl rfl rfl (ms_18 _ _ _) rfl ?_
            refine w_iload (nx := 101) C 6 dX9_culprits_99 rfl rfl ?_
            have ho9 : o_culprits X (nI jk) (nI jt) (nI jy) (nI jn) = ((nI (culN (fun i => rsn (rnS (xS X) (sD (xS X)) i jk jt jy jn) = 0) k)), X) := by unfold o_culprits; rw [if_neg (fun z => z hoE), tn_nI (show jk < 2 ^ 31 by omega), tn_nI (show jt < 2 ^ 31 by omega), tn_nI (show jy < 2 ^ 31 by omega), tn_nI (show jn < 2 ^ 31 by omega), her, if_neg hfl, ← e9]
            refine w_iret (ty := .int) C E dX9_culprits_101 rfl rfl (Nat.le_refl _) (Nat.le_refl _) ?_
            rw [ho9]
            exact ⟨_, rfl, rfl, _, _, _, _, _, _, _, _, _, _, _, _, _, _, _, _, _, _, _, _, _, _, _, _, _, _, _, rfl, rfl, hO, hS1, hU1, hUn, hSl, (⟨hP1, hPd.2⟩), rfl⟩
          · refine w_aload_n (nx := 57) C 0 dX9_culprits_56 rfl rfl rfl ?_
            refine w_iload (nx := 59) C 7 dX9_culprits_57 rfl rfl ?_
            refine w_putM (nx := 62) (ws2 := [(a 0, mO a (upd vv 18 (nI k))), (a 1, aI (kG κ) 800 k1), (a 2, aI (kG κ) 800 k2), (a 3, aI (kG κ) 4800 f3), (a 5, aI (kG κ) 1600 f5), (a 6, aZ (kG κ) 2 f6), (a 7, aI (kG κ) 60 f7), (a 17, aI (kG κ) 12 k17), (a 21, aI (kG κ) 12 k21), (a 22, aI (kG κ) 12 k22), (a 23, aI (kG κ) 12 k23), (a 24, aI (kG κ) 12 k24), (a 25, aI (kG κ) 12 k25), (a 26, aI (kG κ) 12 k26), (a 27, aI (kG κ) 12 k27), (a 28, aI (kG κ) 12 k28), (a 29, aZ (kG κ) 4 k29), (a 31, aI (kG κ) 1300 k31), (a 32, aI (kG κ) 1300 k32), (a 33, aI (kG κ) 1300 k33), (a 34, aI (kG κ) 1300 k34), (a 35, aI (kG κ) 13000 k35), (a 36, aI (kG κ) 606 k36), (a 37, aI (kG κ) 12 f37), (a 38, aI (kG κ) 12 f38), (a 41, aI (kG κ) 64 f41)]) C 0 18 dX9_culprits_59 rfl wl_X9_32 rfl (by decide) rfl rfl rfl (ms_18 _ _ _) rfl ?_
            refine w_iload (nx := 64) C 6 dX9_culprits_62 rfl rfl ?_
            refine w_aload_n (nx := 65) C 0 dX9_culprits_64 rfl rfl rfl ?_
            refine w_iload_n (nx := 66) C 1 dX9_culprits_65 rfl rfl rfl ?_
            refine w_iload_n (nx := 67) C 2 dX9_culprits_66 rfl rfl rfl ?_
            refine w_iload_n (nx := 68) C 3 dX9_culprits_67 rfl rfl rfl ?_
            refine w_iload (nx := 70) C 4 dX9_culprits_68 rfl rfl ?_
            refine w_callV (nx := 73) (wr := [(a 3, aI (kG κ) 4800 f3), (a 5, aI (kG κ) 1600 f5), (a 6, aZ (kG κ) 2 f6), (a 7, aI (kG κ) 60 f7), (a 37, aI (kG κ) 12 f37), (a 38, aI (kG κ) 12 f38), (a 41, aI (kG κ) 64 f41)]) (rest := [.int (nI (culN (fun i => rsn (rnS (xS X) (sD (xS X)) i jk jt jy jn) = 0) k))]) C mi_X9_tries (c_X9_tries _ _ a (upd vv 18 (nI k)) k1 k17 k21 k22 k23 k24 k25 k26 k27 k28 k29 k31 k32 k33 k34 k35 k36 k2 (xS X) k (nI k) jk jt jy jn (hO.1) (hS1) (wo_k (by omega)) (rfl) (by first | assumption | omega) (by first | assumption | omega) (by first | assumption | omega) (by first | assumption | omega)) 0 dX9_culprits_70 rfl wl_X9_215 rfl rfl rfl (pm_sel [0, 1, 7, 8, 9, 10, 11, 12, 13, 14, 15, 16, 17, 18, 19, 20, 21, 22, 2, 3, 4, 5, 6, 23, 24, 25] 26 (by decide +kernel) rfl rfl) rfl rfl (Nat.le_of_ble_eq_true rfl) (Nat.le_of_ble_eq_true rfl) (Nat.le_of_ble_eq_true rfl) (Nat.zero_le _) (Nat.zero_le _) (fun v9 w9 R_8 => ?_)
            obtain ⟨rB, vB, gB1, gB17, gB21, gB22, gB23, gB24, gB25, gB26, gB27, gB28, gB29, gB31, gB32, gB33, gB34, gB35, gB36, gB2, rfl, rfl, heB, hsB, hVB, h17B, hXB, hSB⟩ := R_8
            show WW κ 0 0 [(a 0, mO a vB), (a 1, aI (kG κ) 800 gB1), (a 17, aI (kG κ) 12 gB17), (a 21, aI (kG κ) 12 gB21), (a 22, aI (kG κ) 12 gB22), (a 23, aI (kG κ) 12 gB23), (a 24, aI (kG κ) 12 gB24), (a 25, aI (kG κ) 12 gB25), (a 26, aI (kG κ) 12 gB26), (a 27, aI (kG κ) 12 gB27), (a 28, aI (kG κ) 12 gB28), (a 29, aZ (kG κ) 4 gB29), (a 31, aI (kG κ) 1300 gB31), (a 32, aI (kG κ) 1300 gB32), (a 33, aI (kG κ) 1300 gB33), (a 34, aI (kG κ) 1300 gB34), (a 35, aI (kG κ) 13000 gB35), (a 36, aI (kG κ) 606 gB36), (a 2, aI (kG κ) 800 gB2), (a 3, aI (kG κ) 4800 f3), (a 5, aI (kG κ) 1600 f5), (a 6, aZ (kG κ) 2 f6), (a 7, aI (kG κ) 60 f7), (a 37, aI (kG κ) 12 f37), (a 38, aI (kG κ) 12 f38), (a 41, aI (kG κ) 64 f41)] 73 [(0, .ref (a 0)), (1, .int (nI jk)), (2, .int (nI jt)), (3, .int (nI jy)), (4, .int (nI jn)), (5, .int (nI 0)), (6, .int (nI (culN (fun i => rsn (rnS (xS X) (sD (xS X)) i jk jt jy jn) = 0) k))), (7, .int (nI k))] [.int (bC (rsn rB = 0)), .int (nI (culN (fun i => rsn (rnS (xS X) (sD (xS X)) i jk jt jy jn) = 0) k))]
            have her2 : rnS (xS X) (sD (xS X)) k jk jt jy jn = rB := heB.symm
            refine b_if_eq (tg := 83) (nx := 76) C dX9_culprits_73 rfl rfl (fun h_9 => ?_) (fun h_9 => ?_)
            · have hfl2 := h_9
              refine w_iconst (nx := 84) C (nI 0) dX9_culprits_83 rfl (by decide) ?_
              refine w_ior (nx := 85) C (nI (culN (fun i => rsn (rnS (xS X) (sD (xS X)) i jk jt jy jn) = 0) (k + 1))) dX9_culprits_84 rfl ((nI_or _ _).trans (congrArg nI ((Nat.or_zero _).trans (culN_off (ok := (fun i => rsn (rnS (xS X) (sD (xS X)) i jk jt jy jn) = 0)) (fun z => hfl2 (her2 ▸ z))).symm))) ?_
              refine w_istore (nx := 87) (lo2 := [(6, .int (nI (culN (fun i => rsn (rnS (xS X) (sD (xS X)) i jk jt jy jn) = 0) (k + 1)))), (0, .ref (a 0)), (1, .int (nI jk)), (2, .int (nI jt)), (3, .int (nI jy)), (4, .int (nI jn)), (5, .int (nI 0)), (7, .int (nI k))]) C dX9_culprits_85 rfl (by decide) rfl ?_
              refine w_iinc (nx := 90) (lo2 := [(7, .int (nI (k + 1))), (6, .int (nI (culN (fun i => rsn (rnS (xS X) (sD (xS X)) i jk jt jy jn) = 0) (k + 1)))), (0, .ref (a 0)), (1, .int (nI jk)), (2, .int (nI jt)), (3, .int (nI jy)), (4, .int (nI jn)), (5, .int (nI 0))]) C (nI (k + 1)) 7 dX9_culprits_87 rfl rfl (nI_add _ _) (by decide) rfl ?_
              refine w_goto (nx := 44) C dX9_culprits_90 rfl ?_
              refine ww_sel (l := [(a 0, mO a vB), (a 1, aI (kG κ) 800 gB1), (a 2, aI (kG κ) 800 gB2), (a 3, aI (kG κ) 4800 f3), (a 5, aI (kG κ) 1600 f5), (a 6, aZ (kG κ) 2 f6), (a 7, aI (kG κ) 60 f7), (a 17, aI (kG κ) 12 gB17), (a 21, aI (kG κ) 12 gB21), (a 22, aI (kG κ) 12 gB22), (a 23, aI (kG κ) 12 gB23), (a 24, aI (kG κ) 12 gB24), (a 25, aI (kG κ) 12 gB25), (a 26, aI (kG κ) 12 gB26), (a 27, aI (kG κ) 12 gB27), (a 28, aI (kG κ) 12 gB28), (a 29, aZ (kG κ) 4 gB29), (a 31, aI (kG κ) 1300 gB31), (a 32, aI (kG κ) 1300 gB32), (a 33, aI (kG κ) 1300 gB33), (a 34, aI (kG κ) 1300 gB34), (a 35, aI (kG κ) 13000 gB35), (a 36, aI (kG κ) 606 gB36), (a 37, aI (kG κ) 12 f37), (a 38, aI (kG κ) 12 f38), (a 41, aI (kG κ) 64 f41)]) (pm_sel [0, 1, 18, 19, 20, 21, 22, 2, 3, 4, 5, 6, 7, 8, 9, 10, 11, 12, 13, 14, 15, 16, 17, 23, 24, 25] 26 (by decide +kernel) rfl rfl) ?_
              refine ww_lo [2, 3, 4, 5, 6, 7, 1, 0] (lo' := [(0, .ref (a 0)), (1, .int (nI jk)), (2, .int (nI jt)), (3, .int (nI jy)), (4, .int (nI jn)), (5, .int (nI 0)), (6, .int (nI (culN (fun i => rsn (rnS (xS X) (sD (xS X)) i jk jt jy jn) = 0) (k + 1)))), (7, .int (nI (k + 1)))]) rfl ?_
              exact ih9_44 (k + 1) vB gB1 gB17 gB21 gB22 gB23 gB24 gB25 gB26 gB27 gB28 gB29 gB31 gB32 gB33 gB34 gB35 gB36 gB2 (by first | assumption | omega) (hSB) (hsB.2.1.trans hU1) (hsB.2.2.1.trans hP1) (by omega)
            · have hok2 := h_9
              refine w_iconst (nx := 77) C (nI 1) dX9_culprits_76 rfl (by decide) ?_
              refine w_iload (nx := 79) C 7 dX9_culprits_77 rfl rfl ?_
              refine w_ishl (nx := 80) C (nI (2 ^ k)) dX9_culprits_79 rfl (sh1 k (by omega)) ?_
              refine w_goto (nx := 84) C dX9_culprits_80 rfl ?_
              refine w_ior (nx := 85) C (nI (culN (fun i => rsn (rnS (xS X) (sD (xS X)) i jk jt jy jn) = 0) (k + 1))) dX9_culprits_84 rfl ((nI_or _ _).trans (congrArg nI (culN_on (ok := (fun i => rsn (rnS (xS X) (sD (xS X)) i jk jt jy jn) = 0)) (her2 ▸ hok2)).symm)) ?_
              refine w_istore (nx := 87) (lo2 := [(6, .int (nI (culN (fun i => rsn (rnS (xS X) (sD (xS X)) i jk jt jy jn) = 0) (k + 1)))), (0, .ref (a 0)), (1, .int (nI jk)), (2, .int (nI jt)), (3, .int (nI jy)), (4, .int (nI jn)), (5, .int (nI 0)), (7, .int (nI k))]) C dX9_culprits_85 rfl (by decide) rfl ?_
              refine w_iinc (nx := 90) (lo2 := [(7, .int (nI (k + 1))), (6, .int (nI (culN (fun i => rsn (rnS (xS X) (sD (xS X)) i jk jt jy jn) = 0) (k + 1)))), (0, .ref (a 0)), (1, .int (nI jk)), (2, .int (nI jt)), (3, .int (nI jy)), (4, .int (nI jn)), (5, .int (nI 0))]) C (nI (k + 1)) 7 dX9_culprits_87 rfl rfl (nI_add _ _) (by decide) rfl ?_
              refine w_goto (nx := 44) C dX9_culprits_90 rfl ?_
              refine ww_sel (l := [(a 0, mO a vB), (a 1, aI (kG κ) 800 gB1), (a 2, aI (kG κ) 800 gB2), (a 3, aI (kG κ) 4800 f3), (a 5, aI (kG κ) 1600 f5), (a 6, aZ (kG κ) 2 f6), (a 7, aI (kG κ) 60 f7), (a 17, aI (kG κ) 12 gB17), (a 21, aI (kG κ) 12 gB21), (a 22, aI (kG κ) 12 gB22), (a 23, aI (kG κ) 12 gB23), (a 24, aI (kG κ) 12 gB24), (a 25, aI (kG κ) 12 gB25), (a 26, aI (kG κ) 12 gB26), (a 27, aI (kG κ) 12 gB27), (a 28, aI (kG κ) 12 gB28), (a 29, aZ (kG κ) 4 gB29), (a 31, aI (kG κ) 1300 gB31), (a 32, aI (kG κ) 1300 gB32), (a 33, aI (kG κ) 1300 gB33), (a 34, aI (kG κ) 1300 gB34), (a 35, aI (kG κ) 13000 gB35), (a 36, aI (kG κ) 606 gB36), (a 37, aI (kG κ) 12 f37), (a 38, aI (kG κ) 12 f38), (a 41, aI (kG κ) 64 f41)]) (pm_sel [0, 1, 18, 19, 20, 21, 22, 2, 3, 4, 5, 6, 7, 8, 9, 10, 11, 12, 13, 14, 15, 16, 17, 23, 24, 25] 26 (by decide +kernel) rfl rfl) ?_
              refine ww_lo [2, 3, 4, 5, 6, 7, 1, 0] (lo' := [(0, .ref (a 0)), (1, .int (nI jk)), (2, .int (nI jt)), (3, .int (nI jy)), (4, .int (nI jn)), (5, .int (nI 0)), (6, .int (nI (culN (fun i => rsn (rnS (xS X) (sD (xS X)) i jk jt jy jn) = 0) (k + 1)))), (7, .int (nI (k + 1)))]) rfl ?_
              exact ih9_44 (k + 1) vB gB1 gB17 gB21 gB22 gB23 gB24 gB25 gB26 gB27 gB28 gB29 gB31 gB32 gB33 gB34 gB35 gB36 gB2 (by first | assumption | omega) (hSB) (hsB.2.1.trans hU1) (hsB.2.2.1.trans hP1) (by omega)
      refine ww_sel (l := [(a 0, mO a vA), (a 1, aI (kG κ) 800 gA1), (a 2, aI (kG κ) 800 gA2), (a 3, aI (kG κ) 4800 f3), (a 5, aI (kG κ) 1600 f5), (a 6, aZ (kG κ) 2 f6), (a 7, aI (kG κ) 60 f7), (a 17, aI (kG κ) 12 gA17), (a 21, aI (kG κ) 12 gA21), (a 22, aI (kG κ) 12 gA22), (a 23, aI (kG κ) 12 gA23), (a 24, aI (kG κ) 12 gA24), (a 25, aI (kG κ) 12 gA25), (a 26, aI (kG κ) 12 gA26), (a 27, aI (kG κ) 12 gA27), (a 28, aI (kG κ) 12 gA28), (a 29, aZ (kG κ) 4 gA29), (a 31, aI (kG κ) 1300 gA31), (a 32, aI (kG κ) 1300 gA32), (a 33, aI (kG κ) 1300 gA33), (a 34, aI (kG κ) 1300 gA34), (a 35, aI (kG κ) 13000 gA35), (a 36, aI (kG κ) 606 gA36), (a 37, aI (kG κ) 12 f37), (a 38, aI (kG κ) 12 f38), (a 41, aI (kG κ) 64 f41)]) (pm_sel [0, 1, 18, 19, 20, 21, 22, 2, 3, 4, 5, 6, 7, 8, 9, 10, 11, 12, 13, 14, 15, 16, 17, 23, 24, 25] 26 (by decide +kernel) rfl rfl) ?_
      refine ww_lo [3, 4, 5, 6, 7, 2, 1, 0] (lo' := [(0, .ref (a 0)), (1, .int (nI jk)), (2, .int (nI jt)), (3, .int (nI jy)), (4, .int (nI jn)), (5, .int (nI 0)), (6, .int (nI 0)), (7, .int (nI 0))]) rfl ?_
      exact LP_6 _ 0 vA gA1 gA17 gA21 gA22 gA23 gA24 gA25 gA26 gA27 gA28 gA29 gA31 gA32 gA33 gA34 gA35 gA36 gA2 (Nat.zero_le _) (hSA) (hsA.2.1.trans hU) (hsA.2.2.1.trans hPd.1) (Nat.lt_succ_self _)
    · have hok := h_5
      refine w_bipush (nx := 37) C (-6) dX9_culprits_35 rfl (by decide) ?_
      refine ww_sel (l := [(a 0, mO a vA), (a 1, aI (kG κ) 800 gA1), (a 2, aI (kG κ) 800 gA2), (a 3, aI (kG κ) 4800 f3), (a 5, aI (kG κ) 1600 f5), (a 6, aZ (kG κ) 2 f6), (a 7, aI (kG κ) 60 f7), (a 17, aI (kG κ) 12 gA17), (a 21, aI (kG κ) 12 gA21), (a 22, aI (kG κ) 12 gA22), (a 23, aI (kG κ) 12 gA23), (a 24, aI (kG κ) 12 gA24), (a 25, aI (kG κ) 12 gA25), (a 26, aI (kG κ) 12 gA26), (a 27, aI (kG κ) 12 gA27), (a 28, aI (kG κ) 12 gA28), (a 29, aZ (kG κ) 4 gA29), (a 31, aI (kG κ) 1300 gA31), (a 32, aI (kG κ) 1300 gA32), (a 33, aI (kG κ) 1300 gA33), (a 34, aI (kG κ) 1300 gA34), (a 35, aI (kG κ) 13000 gA35), (a 36, aI (kG κ) 606 gA36), (a 37, aI (kG κ) 12 f37), (a 38, aI (kG κ) 12 f38), (a 41, aI (kG κ) 64 f41)]) (pm_sel [0, 1, 18, 19, 20, 21, 22, 2, 3, 4, 5, 6, 7, 8, 9, 10, 11, 12, 13, 14, 15, 16, 17, 23, 24, 25] 26 (by decide +kernel) rfl rfl) ?_
      have ho9 : o_culprits X (nI jk) (nI jt) (nI jy) (nI jn) = ((-6), X) := by unfold o_culprits; rw [if_neg (fun z => z hoE), tn_nI (show jk < 2 ^ 31 by omega), tn_nI (show jt < 2 ^ 31 by omega), tn_nI (show jy < 2 ^ 31 by omega), tn_nI (show jn < 2 ^ 31 by omega), her, if_pos hok]
      refine w_iret (ty := .int) C E dX9_culprits_37 rfl rfl (Nat.le_refl _) (Nat.le_refl _) ?_
      rw [ho9]
      exact ⟨_, rfl, rfl, _, _, _, _, _, _, _, _, _, _, _, _, _, _, _, _, _, _, _, _, _, _, _, _, _, _, _, rfl, rfl, hO, hSA, (hsA.2.1.trans hU), hUn, hSl, (⟨hsA.2.2.1.trans hPd.1, hPd.2⟩), (hsA.2.2.2.1.trans h18)⟩
set_option maxHeartbeats 4000000 in
set_option maxRecDepth 100000 in
theorem c_X9_leastDepth (l : Launch) (G : GG) (h : Nat) (w : va_W) (X : SX) (qk : Int32) (qt : Int32) (qy : Int32) (qn : Int32) (hRX : RMX G h w X) : MT l G yX9_leastDepth cX9_leastDepth 9 (some .int) 11 0 0 [.ref h, .int qk, .int qt, .int qy, .int qn] ((w)) (fun v9 ws9 => ∃ (w2 : va_W), v9 = some (.int ((o_leastDepth X qk qt qy qn).1)) ∧ ws9 = ((w2)) ∧ RMX G h w2 (o_leastDepth X qk qt qy qn).2) := by
  refine RMX_elim hRX (fun a v f1 f2 f3 f5 f6 f7 f17 f21 f22 f23 f24 f25 f26 f27 f28 f29 f31 f32 f33 f34 f35 f36 f37 f38 f41 hw9 hh hO hS hU hUn hSl hPd h18 => ?_)
  subst hw9
  subst hh
  refine MT.of RX9 [(0, .ref (a 0)), (1, .int qk), (2, .int qt), (3, .int qy), (4, .int qn)] (by decide +kernel) rfl rfl (Nat.le_of_ble_eq_true rfl) (fun κ C E hl9 hG9 hnm9 => ?_)
  subst hl9; subst hG9
  have hn12 := hO.1.2.2.2.1.1
  have hj100 := hO.1.2.2.2.2
  have hz6 := hO.2.1.1
  have hp60 := hO.2.2.2.1
  have hd8 := hO.1.1
  have hl1 := hO.1.2.1
  have hzT := hO.1.2.2.1
  refine w_aload_n (nx := 1) C 0 dX9_leastDepth_0 rfl rfl rfl ?_
  refine w_iconst (nx := 2) C (nI 0) dX9_leastDepth_1 rfl (by decide) ?_
  refine w_putM (nx := 5) (ws2 := [(a 0, mO a (upd v 0 (nI 0))), (a 1, aI (kG κ) 800 f1), (a 2, aI (kG κ) 800 f2), (a 3, aI (kG κ) 4800 f3), (a 5, aI (kG κ) 1600 f5), (a 6, aZ (kG κ) 2 f6), (a 7, aI (kG κ) 60 f7), (a 17, aI (kG κ) 12 f17), (a 21, aI (kG κ) 12 f21), (a 22, aI (kG κ) 12 f22), (a 23, aI (kG κ) 12 f23), (a 24, aI (kG κ) 12 f24), (a 25, aI (kG κ) 12 f25), (a 26, aI (kG κ) 12 f26), (a 27, aI (kG κ) 12 f27), (a 28, aI (kG κ) 12 f28), (a 29, aZ (kG κ) 4 f29), (a 31, aI (kG κ) 1300 f31), (a 32, aI (kG κ) 1300 f32), (a 33, aI (kG κ) 1300 f33), (a 34, aI (kG κ) 1300 f34), (a 35, aI (kG κ) 13000 f35), (a 36, aI (kG κ) 606 f36), (a 37, aI (kG κ) 12 f37), (a 38, aI (kG κ) 12 f38), (a 41, aI (kG κ) 64 f41)]) C 0 0 dX9_leastDepth_2 rfl wl_X9_90 rfl (by decide) rfl rfl rfl (ms_0 _ _ _) rfl ?_
  refine w_iload_n (nx := 6) C 1 dX9_leastDepth_5 rfl rfl rfl ?_
  refine w_iload_n (nx := 7) C 2 dX9_leastDepth_6 rfl rfl rfl ?_
  refine w_iload_n (nx := 8) C 3 dX9_leastDepth_7 rfl rfl rfl ?_
  refine w_iload (nx := 10) C 4 dX9_leastDepth_8 rfl rfl ?_
  refine w_callS (nx := 13) (wr := [(a 0, mO a (upd v 0 (nI 0))), (a 1, aI (kG κ) 800 f1), (a 2, aI (kG κ) 800 f2), (a 3, aI (kG κ) 4800 f3), (a 5, aI (kG κ) 1600 f5), (a 6, aZ (kG κ) 2 f6), (a 7, aI (kG κ) 60 f7), (a 17, aI (kG κ) 12 f17), (a 21, aI (kG κ) 12 f21), (a 22, aI (kG κ) 12 f22), (a 23, aI (kG κ) 12 f23), (a 24, aI (kG κ) 12 f24), (a 25, aI (kG κ) 12 f25), (a 26, aI (kG κ) 12 f26), (a 27, aI (kG κ) 12 f27), (a 28, aI (kG κ) 12 f28), (a 29, aZ (kG κ) 4 f29), (a 31, aI (kG κ) 1300 f31), (a 32, aI (kG κ) 1300 f32), (a 33, aI (kG κ) 1300 f33), (a 34, aI (kG κ) 1300 f34), (a 35, aI (kG κ) 13000 f35), (a 36, aI (kG κ) 606 f36), (a 37, aI (kG κ) 12 f37), (a 38, aI (kG κ) 12 f38), (a 41, aI (kG κ) 64 f41)]) (rest := []) C ms_X9_refuses (c_X9_refuses _ _ qk qt qy qn) dX9_leastDepth_10 rfl wl_X9_211 rfl (pm_sel [0, 1, 2, 3, 4, 5, 6, 7, 8, 9, 10, 11, 12, 13, 14, 15, 16, 17, 18, 19, 20, 21, 22, 23, 24, 25] 26 (by decide +kernel) rfl rfl) rfl rfl (Nat.le_of_ble_eq_true rfl) (Nat.le_of_ble_eq_true rfl) (Nat.le_of_ble_eq_true rfl) (Nat.zero_le _) (Nat.zero_le _) (fun v9 w9 R_1 => ?_)
  rcases R_1 with ⟨ve, rfl, rfl, hv0, hoE⟩ | ⟨jk, jt, jy, jn, rfl, rfl, ee1, ee2, ee3, ee4, hoE, hjk, hjt, hjy, hjn⟩
  · show WW κ 0 0 [(a 0, mO a (upd v 0 (nI 0))), (a 1, aI (kG κ) 800 f1), (a 2, aI (kG κ) 800 f2), (a 3, aI (kG κ) 4800 f3), (a 5, aI (kG κ) 1600 f5), (a 6, aZ (kG κ) 2 f6), (a 7, aI (kG κ) 60 f7), (a 17, aI (kG κ) 12 f17), (a 21, aI (kG κ) 12 f21), (a 22, aI (kG κ) 12 f22), (a 23, aI (kG κ) 12 f23), (a 24, aI (kG κ) 12 f24), (a 25, aI (kG κ) 12 f25), (a 26, aI (kG κ) 12 f26), (a 27, aI (kG κ) 12 f27), (a 28, aI (kG κ) 12 f28), (a 29, aZ (kG κ) 4 f29), (a 31, aI (kG κ) 1300 f31), (a 32, aI (kG κ) 1300 f32), (a 33, aI (kG κ) 1300 f33), (a 34, aI (kG κ) 1300 f34), (a 35, aI (kG κ) 13000 f35), (a 36, aI (kG κ) 606 f36), (a 37, aI (kG κ) 12 f37), (a 38, aI (kG κ) 12 f38), (a 41, aI (kG κ) 64 f41)] 13 [(0, .ref (a 0)), (1, .int qk), (2, .int qt), (3, .int qy), (4, .int qn)] [.int ve]
    refine w_istore (nx := 15) (lo2 := [(5, .int ve), (0, .ref (a 0)), (1, .int qk), (2, .int qt), (3, .int qy), (4, .int qn)]) C dX9_leastDepth_13 rfl (by decide) rfl ?_
    refine w_iload (nx := 17) C 0 dX9_leastDepth_15 rfl rfl ?_
    refine w_if_eq (tg := 23) (nx := 20) C dX9_leastDepth_17 rfl rfl (fun h_2 => ?_) (fun h_2 => ?_)
    · exact absurd h_2 hv0
    · refine w_iload (nx := 22) C 0 dX9_leastDepth_20 rfl rfl ?_
      have ho9 : o_leastDepth X qk qt qy qn = (ve, X) := by unfold o_leastDepth; rw [hoE, if_pos hv0]
      refine w_iret (ty := .int) C E dX9_leastDepth_22 rfl rfl (Nat.le_refl _) (Nat.le_refl _) ?_
      rw [ho9]
      exact ⟨_, rfl, rfl, _, _, _, _, _, _, _, _, _, _, _, _, _, _, _, _, _, _, _, _, _, _, _, _, _, _, _, rfl, rfl, hO, hS, hU, hUn, hSl, hPd, h18⟩
  · show WW κ 0 0 [(a 0, mO a (upd v 0 (nI 0))), (a 1, aI (kG κ) 800 f1), (a 2, aI (kG κ) 800 f2), (a 3, aI (kG κ) 4800 f3), (a 5, aI (kG κ) 1600 f5), (a 6, aZ (kG κ) 2 f6), (a 7, aI (kG κ) 60 f7), (a 17, aI (kG κ) 12 f17), (a 21, aI (kG κ) 12 f21), (a 22, aI (kG κ) 12 f22), (a 23, aI (kG κ) 12 f23), (a 24, aI (kG κ) 12 f24), (a 25, aI (kG κ) 12 f25), (a 26, aI (kG κ) 12 f26), (a 27, aI (kG κ) 12 f27), (a 28, aI (kG κ) 12 f28), (a 29, aZ (kG κ) 4 f29), (a 31, aI (kG κ) 1300 f31), (a 32, aI (kG κ) 1300 f32), (a 33, aI (kG κ) 1300 f33), (a 34, aI (kG κ) 1300 f34), (a 35, aI (kG κ) 13000 f35), (a 36, aI (kG κ) 606 f36), (a 37, aI (kG κ) 12 f37), (a 38, aI (kG κ) 12 f38), (a 41, aI (kG κ) 64 f41)] 13 [(0, .ref (a 0)), (1, .int qk), (2, .int qt), (3, .int qy), (4, .int qn)] [.int (nI 0)]
    subst ee1; subst ee2; subst ee3; subst ee4
    refine w_istore (nx := 15) (lo2 := [(5, .int (nI 0)), (0, .ref (a 0)), (1, .int (nI jk)), (2, .int (nI jt)), (3, .int (nI jy)), (4, .int (nI jn))]) C dX9_leastDepth_13 rfl (by decide) rfl ?_
    refine w_iload (nx := 17) C 0 dX9_leastDepth_15 rfl rfl ?_
    refine w_if_eq (tg := 23) (nx := 20) C dX9_leastDepth_17 rfl rfl (fun _ => ?_) (fun q9 => absurd (by decide) q9)
    refine w_aload_n (nx := 24) C 1 dX9_leastDepth_23 rfl rfl rfl ?_
    refine w_getM (nx := 27) C (.ref (a 1)) 0 1 dX9_leastDepth_24 rfl wl_X9_7 rfl (by decide) rfl (mg_1 _ _) ?_
    refine w_iconst (nx := 28) C (nI 0) dX9_leastDepth_27 rfl (by decide) ?_
    refine w_iald (nx := 29) C (nI (sD (xS X))) 1 0 dX9_leastDepth_28 rfl rfl (by decide) rfl (by omega) hS.1 ?_
    refine w_istore (nx := 31) (lo2 := [(6, .int (nI (sD (xS X)))), (5, .int (nI 0)), (0, .ref (a 0)), (1, .int (nI jk)), (2, .int (nI jt)), (3, .int (nI jy)), (4, .int (nI jn))]) C dX9_leastDepth_29 rfl (by decide) rfl ?_
    refine w_bipush (nx := 33) C (-6) dX9_leastDepth_31 rfl (by decide) ?_
    refine w_istore (nx := 35) (lo2 := [(7, .int (-6)), (6, .int (nI (sD (xS X)))), (5, .int (nI 0)), (0, .ref (a 0)), (1, .int (nI jk)), (2, .int (nI jt)), (3, .int (nI jy)), (4, .int (nI jn))]) C dX9_leastDepth_33 rfl (by decide) rfl ?_
    refine w_bipush (nx := 37) C (nI 8) dX9_leastDepth_35 rfl (by decide) ?_
    refine w_istore (nx := 39) (lo2 := [(8, .int (nI 8)), (7, .int (-6)), (6, .int (nI (sD (xS X)))), (5, .int (nI 0)), (0, .ref (a 0)), (1, .int (nI jk)), (2, .int (nI jt)), (3, .int (nI jy)), (4, .int (nI jn))]) C dX9_leastDepth_37 rfl (by decide) rfl ?_
    have LP_4 : ∀ (N9_39 : Nat) (e : Nat) (fo : Int32) (d9 : Nat) (vv : Nat → Int32) (k1 : Nat → Int32) (k17 : Nat → Int32) (k21 : Nat → Int32) (k22 : Nat → Int32) (k23 : Nat → Int32) (k24 : Nat → Int32) (k25 : Nat → Int32) (k26 : Nat → Int32) (k27 : Nat → Int32) (k28 : Nat → Int32) (k29 : Nat → Int32) (k31 : Nat → Int32) (k32 : Nat → Int32) (k33 : Nat → Int32) (k34 : Nat → Int32) (k35 : Nat → Int32) (k36 : Nat → Int32) (k2 : Nat → Int32), (e ≤ 9) → (fo = lstF (fun d => rsn (rnS (xS X) d 99 jk jt jy jn) = 0) (9 - e) e) → (rMS k1 (d9, (xS X).2)) → (wfS ((d9, (xS X).2) : SG)) → (vv 4 = nI (xH X).1) → (vv 8 = nI (xP X).1) → (vv 18 = -6) → e < N9_39 → WW κ 0 0 [(a 0, mO a vv), (a 1, aI (kG κ) 800 k1), (a 2, aI (kG κ) 800 k2), (a 3, aI (kG κ) 4800 f3), (a 5, aI (kG κ) 1600 f5), (a 6, aZ (kG κ) 2 f6), (a 7, aI (kG κ) 60 f7), (a 17, aI (kG κ) 12 k17), (a 21, aI (kG κ) 12 k21), (a 22, aI (kG κ) 12 k22), (a 23, aI (kG κ) 12 k23), (a 24, aI (kG κ) 12 k24), (a 25, aI (kG κ) 12 k25), (a 26, aI (kG κ) 12 k26), (a 27, aI (kG κ) 12 k27), (a 28, aI (kG κ) 12 k28), (a 29, aZ (kG κ) 4 k29), (a 31, aI (kG κ) 1300 k31), (a 32, aI (kG κ) 1300 k32), (a 33, aI (kG κ) 1300 k33), (a 34, aI (kG κ) 1300 k34), (a 35, aI (kG κ) 13000 k35), (a 36, aI (kG κ) 606 k36), (a 37, aI (kG κ) 12 f37), (a 38, aI (kG κ) 12 f38), (a 41, aI (kG κ) 64 f41)] 39 [(0, .ref (a 0)), (1, .int (nI jk)), (2, .int (nI jt)), (3, .int (nI jy)), (4, .int (nI jn)), (5, .int (nI 0)), (6, .int (nI (sD (xS X)))), (7, .int fo), (8, .int (nI e - nI 1))] [] := by
      intro N9_39
      induction N9_39 with
      | zero => intro e fo d9 vv k1 k17 k21 k22 k23 k24 k25 k26 k27 k28 k29 k31 k32 k33 k34 k35 k36 k2 he9 hfo hS1 hw1 hU1 hP1 h181 hm9_39; exact absurd hm9_39 (Nat.not_lt_zero _)
      | succ N9_39 ih9_39 =>
        intro e fo d9 vv k1 k17 k21 k22 k23 k24 k25 k26 k27 k28 k29 k31 k32 k33 k34 k35 k36 k2 he9 hfo hS1 hw1 hU1 hP1 h181 hm9_39
        refine w_iload (nx := 41) C 8 dX9_leastDepth_39 rfl rfl ?_
        refine w_if_lt (tg := 79) (nx := 44) C dX9_leastDepth_41 rfl rfl (fun h_5 => ?_) (fun h_5 => ?_)
        · have he0 := sub1_neg (by omega) h_5
          subst he0
          refine w_aload_n (nx := 80) C 0 dX9_leastDepth_79 rfl rfl rfl ?_
          refine w_getM (nx := 83) C (.ref (a 1)) 0 1 dX9_leastDepth_80 rfl wl_X9_7 rfl (by decide) rfl (mg_1 _ _) ?_
          refine w_iconst (nx := 84) C (nI 0) dX9_leastDepth_83 rfl (by decide) ?_
          refine w_iload (nx := 86) C 6 dX9_leastDepth_84 rfl rfl ?_
          refine w_iast (nx := 87) (ws2 := [(a 0, mO a vv), (a 1, aI (kG κ) 800 (upd k1 0 (nI (sD (xS X))))), (a 2, aI (kG κ) 800 k2), (a 3, aI (kG κ) 4800 f3), (a 5, aI (kG κ) 1600 f5), (a 6, aZ (kG κ) 2 f6), (a 7, aI (kG κ) 60 f7), (a 17, aI (kG κ) 12 k17), (a 21, aI (kG κ) 12 k21), (a 22, aI (kG κ) 12 k22), (a 23, aI (kG κ) 12 k23), (a 24, aI (kG κ) 12 k24), (a 25, aI (kG κ) 12 k25), (a 26, aI (kG κ) 12 k26), (a 27, aI (kG κ) 12 k27), (a 28, aI (kG κ) 12 k28), (a 29, aZ (kG κ) 4 k29), (a 31, aI (kG κ) 1300 k31), (a 32, aI (kG κ) 1300 k32), (a 33, aI (kG κ) 1300 k33), (a 34, aI (kG κ) 1300 k34), (a 35, aI (kG κ) 13000 k35), (a 36, aI (kG κ) 606 k36), (a 37, aI (kG κ) 12 f37), (a 38, aI (kG κ) 12 f38), (a 41, aI (kG κ) 64 f41)]) C 1 0 dX9_leastDepth_86 rfl rfl (by decide) rfl (by omega) rfl ?_
          refine w_iload (nx := 89) C 7 dX9_leastDepth_87 rfl rfl ?_
          have ho9 : o_leastDepth X (nI jk) (nI jt) (nI jy) (nI jn) = (fo, X) := by unfold o_leastDepth; rw [if_neg (fun z => z hoE), tn_nI (show jk < 2 ^ 31 by omega), tn_nI (show jt < 2 ^ 31 by omega), tn_nI (show jy < 2 ^ 31 by omega), tn_nI (show jn < 2 ^ 31 by omega), hfo]
          refine w_iret (ty := .int) C E dX9_leastDepth_89 rfl rfl (Nat.le_refl _) (Nat.le_refl _) ?_
          rw [ho9]
          exact ⟨_, rfl, rfl, _, _, _, _, _, _, _, _, _, _, _, _, _, _, _, _, _, _, _, _, _, _, _, _, _, _, _, rfl, rfl, hO, (rMS_D (σ := ((d9, (xS X).2) : SG)) hS1 hw1), hU1, hUn, hSl, (⟨hP1, hPd.2⟩), h181⟩
        · have he1 := sub1_pos (by omega) h_5
          have hwe : wfS ((e - 1, (xS X).2) : SG) := ⟨by show e - 1 ≤ 8; omega, hO.1.2⟩
          rw [pk_sub he1]
          refine w_aload_n (nx := 45) C 0 dX9_leastDepth_44 rfl rfl rfl ?_
          refine w_getM (nx := 48) C (.ref (a 1)) 0 1 dX9_leastDepth_45 rfl wl_X9_7 rfl (by decide) rfl (mg_1 _ _) ?_
          refine w_iconst (nx := 49) C (nI 0) dX9_leastDepth_48 rfl (by decide) ?_
          refine w_iload (nx := 51) C 8 dX9_leastDepth_49 rfl rfl ?_
          refine w_iast (nx := 52) (ws2 := [(a 0, mO a vv), (a 1, aI (kG κ) 800 (upd k1 0 (nI (e - 1)))), (a 2, aI (kG κ) 800 k2), (a 3, aI (kG κ) 4800 f3), (a 5, aI (kG κ) 1600 f5), (a 6, aZ (kG κ) 2 f6), (a 7, aI (kG κ) 60 f7), (a 17, aI (kG κ) 12 k17), (a 21, aI (kG κ) 12 k21), (a 22, aI (kG κ) 12 k22), (a 23, aI (kG κ) 12 k23), (a 24, aI (kG κ) 12 k24), (a 25, aI (kG κ) 12 k25), (a 26, aI (kG κ) 12 k26), (a 27, aI (kG κ) 12 k27), (a 28, aI (kG κ) 12 k28), (a 29, aZ (kG κ) 4 k29), (a 31, aI (kG κ) 1300 k31), (a 32, aI (kG κ) 1300 k32), (a 33, aI (kG κ) 1300 k33), (a 34, aI (kG κ) 1300 k34), (a 35, aI (kG κ) 13000 k35), (a 36, aI (kG κ) 606 k36), (a 37, aI (kG κ) 12 f37), (a 38, aI (kG κ) 12 f38), (a 41, aI (kG κ) 64 f41)]) C 1 0 dX9_leastDepth_51 rfl rfl (by decide) rfl (by omega) rfl ?_
          refine w_aload_n (nx := 53) C 0 dX9_leastDepth_52 rfl rfl rfl ?_
          refine w_iload_n (nx := 54) C 1 dX9_leastDepth_53 rfl rfl rfl ?_
          refine w_iload_n (nx := 55) C 2 dX9_leastDepth_54 rfl rfl rfl ?_
          refine w_iload_n (nx := 56) C 3 dX9_leastDepth_55 rfl rfl rfl ?_
          refine w_iload (nx := 58) C 4 dX9_leastDepth_56 rfl rfl ?_
          refine w_callV (nx := 61) (wr := [(a 3, aI (kG κ) 4800 f3), (a 5, aI (kG κ) 1600 f5), (a 6, aZ (kG κ) 2 f6), (a 7, aI (kG κ) 60 f7), (a 37, aI (kG κ) 12 f37), (a 38, aI (kG κ) 12 f38), (a 41, aI (kG κ) 64 f41)]) (rest := []) C mi_X9_tries (c_X9_tries _ _ a vv (upd k1 0 (nI (e - 1))) k17 k21 k22 k23 k24 k25 k26 k27 k28 k29 k31 k32 k33 k34 k35 k36 k2 ((e - 1, (xS X).2) : SG) 99 (-6) jk jt jy jn (hwe) ((rMS_D (σ := ((d9, (xS X).2) : SG)) hS1 hw1)) (wo_6) (h181) (by first | assumption | omega) (by first | assumption | omega) (by first | assumption | omega) (by first | assumption | omega)) 0 dX9_leastDepth_58 rfl wl_X9_215 rfl rfl rfl (pm_sel [0, 1, 7, 8, 9, 10, 11, 12, 13, 14, 15, 16, 17, 18, 19, 20, 21, 22, 2, 3, 4, 5, 6, 23, 24, 25] 26 (by decide +kernel) rfl rfl) rfl rfl (Nat.le_of_ble_eq_true rfl) (Nat.le_of_ble_eq_true rfl) (Nat.le_of_ble_eq_true rfl) (Nat.zero_le _) (Nat.zero_le _) (fun v9 w9 R_6 => ?_)
          obtain ⟨rB, vB, gB1, gB17, gB21, gB22, gB23, gB24, gB25, gB26, gB27, gB28, gB29, gB31, gB32, gB33, gB34, gB35, gB36, gB2, rfl, rfl, heB, hsB, hVB, h17B, hXB, hSB⟩ := R_6
          show WW κ 0 0 [(a 0, mO a vB), (a 1, aI (kG κ) 800 gB1), (a 17, aI (kG κ) 12 gB17), (a 21, aI (kG κ) 12 gB21), (a 22, aI (kG κ) 12 gB22), (a 23, aI (kG κ) 12 gB23), (a 24, aI (kG κ) 12 gB24), (a 25, aI (kG κ) 12 gB25), (a 26, aI (kG κ) 12 gB26), (a 27, aI (kG κ) 12 gB27), (a 28, aI (kG κ) 12 gB28), (a 29, aZ (kG κ) 4 gB29), (a 31, aI (kG κ) 1300 gB31), (a 32, aI (kG κ) 1300 gB32), (a 33, aI (kG κ) 1300 gB33), (a 34, aI (kG κ) 1300 gB34), (a 35, aI (kG κ) 13000 gB35), (a 36, aI (kG κ) 606 gB36), (a 2, aI (kG κ) 800 gB2), (a 3, aI (kG κ) 4800 f3), (a 5, aI (kG κ) 1600 f5), (a 6, aZ (kG κ) 2 f6), (a 7, aI (kG κ) 60 f7), (a 37, aI (kG κ) 12 f37), (a 38, aI (kG κ) 12 f38), (a 41, aI (kG κ) 64 f41)] 61 [(0, .ref (a 0)), (1, .int (nI jk)), (2, .int (nI jt)), (3, .int (nI jy)), (4, .int (nI jn)), (5, .int (nI 0)), (6, .int (nI (sD (xS X)))), (7, .int fo), (8, .int (nI (e - 1)))] [.int (bC (rsn rB = 0))]
          have her2 : rnS (xS X) (e - 1) 99 jk jt jy jn = rB := heB.symm
          refine b_if_eq (tg := 69) (nx := 64) C dX9_leastDepth_61 rfl rfl (fun h_7 => ?_) (fun h_7 => ?_)
          · have hfl2 := h_7
            refine w_iload (nx := 71) C 7 dX9_leastDepth_69 rfl rfl ?_
            refine w_top (lstF (fun d => rsn (rnS (xS X) d 99 jk jt jy jn) = 0) (9 - (e - 1)) (e - 1)) (by rw [hfo, show 9 - (e - 1) = 9 - e + 1 by omega, lst_off (ok := (fun d => rsn (rnS (xS X) d 99 jk jt jy jn) = 0)) (fun z => hfl2 (her2 ▸ z)), show e - 1 + 1 = e by omega]) ?_
            refine w_istore (nx := 73) (lo2 := [(7, .int (lstF (fun d => rsn (rnS (xS X) d 99 jk jt jy jn) = 0) (9 - (e - 1)) (e - 1))), (0, .ref (a 0)), (1, .int (nI jk)), (2, .int (nI jt)), (3, .int (nI jy)), (4, .int (nI jn)), (5, .int (nI 0)), (6, .int (nI (sD (xS X)))), (8, .int (nI (e - 1)))]) C dX9_leastDepth_71 rfl (by decide) rfl ?_
            refine w_iinc (nx := 76) (lo2 := [(8, .int (nI (e - 1) - nI 1)), (7, .int (lstF (fun d => rsn (rnS (xS X) d 99 jk jt jy jn) = 0) (9 - (e - 1)) (e - 1))), (0, .ref (a 0)), (1, .int (nI jk)), (2, .int (nI jt)), (3, .int (nI jy)), (4, .int (nI jn)), (5, .int (nI 0)), (6, .int (nI (sD (xS X))))]) C (nI (e - 1) - nI 1) 8 dX9_leastDepth_73 rfl rfl (dec_sub _) (by decide) rfl ?_
            refine w_goto (nx := 39) C dX9_leastDepth_76 rfl ?_
            refine ww_sel (l := [(a 0, mO a vB), (a 1, aI (kG κ) 800 gB1), (a 2, aI (kG κ) 800 gB2), (a 3, aI (kG κ) 4800 f3), (a 5, aI (kG κ) 1600 f5), (a 6, aZ (kG κ) 2 f6), (a 7, aI (kG κ) 60 f7), (a 17, aI (kG κ) 12 gB17), (a 21, aI (kG κ) 12 gB21), (a 22, aI (kG κ) 12 gB22), (a 23, aI (kG κ) 12 gB23), (a 24, aI (kG κ) 12 gB24), (a 25, aI (kG κ) 12 gB25), (a 26, aI (kG κ) 12 gB26), (a 27, aI (kG κ) 12 gB27), (a 28, aI (kG κ) 12 gB28), (a 29, aZ (kG κ) 4 gB29), (a 31, aI (kG κ) 1300 gB31), (a 32, aI (kG κ) 1300 gB32), (a 33, aI (kG κ) 1300 gB33), (a 34, aI (kG κ) 1300 gB34), (a 35, aI (kG κ) 13000 gB35), (a 36, aI (kG κ) 606 gB36), (a 37, aI (kG κ) 12 f37), (a 38, aI (kG κ) 12 f38), (a 41, aI (kG κ) 64 f41)]) (pm_sel [0, 1, 18, 19, 20, 21, 22, 2, 3, 4, 5, 6, 7, 8, 9, 10, 11, 12, 13, 14, 15, 16, 17, 23, 24, 25] 26 (by decide +kernel) rfl rfl) ?_
            refine ww_lo [2, 3, 4, 5, 6, 7, 8, 1, 0] (lo' := [(0, .ref (a 0)), (1, .int (nI jk)), (2, .int (nI jt)), (3, .int (nI jy)), (4, .int (nI jn)), (5, .int (nI 0)), (6, .int (nI (sD (xS X)))), (7, .int (lstF (fun d => rsn (rnS (xS X) d 99 jk jt jy jn) = 0) (9 - (e - 1)) (e - 1))), (8, .int (nI (e - 1) - nI 1))]) rfl ?_
            exact ih9_39 (e - 1) (lstF (fun d => rsn (rnS (xS X) d 99 jk jt jy jn) = 0) (9 - (e - 1)) (e - 1)) (e - 1) vB gB1 gB17 gB21 gB22 gB23 gB24 gB25 gB26 gB27 gB28 gB29 gB31 gB32 gB33 gB34 gB35 gB36 gB2 (by omega) (rfl) (hSB) (hwe) (hsB.2.1.trans hU1) (hsB.2.2.1.trans hP1) (hsB.2.2.2.1.trans h181) (by omega)
          · have hok2 := h_7
            refine w_iload (nx := 66) C 8 dX9_leastDepth_64 rfl rfl ?_
            refine w_goto (nx := 71) C dX9_leastDepth_66 rfl ?_
            refine w_top (lstF (fun d => rsn (rnS (xS X) d 99 jk jt jy jn) = 0) (9 - (e - 1)) (e - 1)) (by rw [show 9 - (e - 1) = 9 - e + 1 by omega, lst_on (ok := (fun d => rsn (rnS (xS X) d 99 jk jt jy jn) = 0)) (her2 ▸ hok2)]) ?_
            refine w_istore (nx := 73) (lo2 := [(7, .int (lstF (fun d => rsn (rnS (xS X) d 99 jk jt jy jn) = 0) (9 - (e - 1)) (e - 1))), (0, .ref (a 0)), (1, .int (nI jk)), (2, .int (nI jt)), (3, .int (nI jy)), (4, .int (nI jn)), (5, .int (nI 0)), (6, .int (nI (sD (xS X)))), (8, .int (nI (e - 1)))]) C dX9_leastDepth_71 rfl (by decide) rfl ?_
            refine w_iinc (nx := 76) (lo2 := [(8, .int (nI (e - 1) - nI 1)), (7, .int (lstF (fun d => rsn (rnS (xS X) d 99 jk jt jy jn) = 0) (9 - (e - 1)) (e - 1))), (0, .ref (a 0)), (1, .int (nI jk)), (2, .int (nI jt)), (3, .int (nI jy)), (4, .int (nI jn)), (5, .int (nI 0)), (6, .int (nI (sD (xS X))))]) C (nI (e - 1) - nI 1) 8 dX9_leastDepth_73 rfl rfl (dec_sub _) (by decide) rfl ?_
            refine w_goto (nx := 39) C dX9_leastDepth_76 rfl ?_
            refine ww_sel (l := [(a 0, mO a vB), (a 1, aI (kG κ) 800 gB1), (a 2, aI (kG κ) 800 gB2), (a 3, aI (kG κ) 4800 f3), (a 5, aI (kG κ) 1600 f5), (a 6, aZ (kG κ) 2 f6), (a 7, aI (kG κ) 60 f7), (a 17, aI (kG κ) 12 gB17), (a 21, aI (kG κ) 12 gB21), (a 22, aI (kG κ) 12 gB22), (a 23, aI (kG κ) 12 gB23), (a 24, aI (kG κ) 12 gB24), (a 25, aI (kG κ) 12 gB25), (a 26, aI (kG κ) 12 gB26), (a 27, aI (kG κ) 12 gB27), (a 28, aI (kG κ) 12 gB28), (a 29, aZ (kG κ) 4 gB29), (a 31, aI (kG κ) 1300 gB31), (a 32, aI (kG κ) 1300 gB32), (a 33, aI (kG κ) 1300 gB33), (a 34, aI (kG κ) 1300 gB34), (a 35, aI (kG κ) 13000 gB35), (a 36, aI (kG κ) 606 gB36), (a 37, aI (kG κ) 12 f37), (a 38, aI (kG κ) 12 f38), (a 41, aI (kG κ) 64 f41)]) (pm_sel [0, 1, 18, 19, 20, 21, 22, 2, 3, 4, 5, 6, 7, 8, 9, 10, 11, 12, 13, 14, 15, 16, 17, 23, 24, 25] 26 (by decide +kernel) rfl rfl) ?_
            refine ww_lo [2, 3, 4, 5, 6, 7, 8, 1, 0] (lo' := [(0, .ref (a 0)), (1, .int (nI jk)), (2, .int (nI jt)), (3, .int (nI jy)), (4, .int (nI jn)), (5, .int (nI 0)), (6, .int (nI (sD (xS X)))), (7, .int (lstF (fun d => rsn (rnS (xS X) d 99 jk jt jy jn) = 0) (9 - (e - 1)) (e - 1))), (8, .int (nI (e - 1) - nI 1))]) rfl ?_
            exact ih9_39 (e - 1) (lstF (fun d => rsn (rnS (xS X) d 99 jk jt jy jn) = 0) (9 - (e - 1)) (e - 1)) (e - 1) vB gB1 gB17 gB21 gB22 gB23 gB24 gB25 gB26 gB27 gB28 gB29 gB31 gB32 gB33 gB34 gB35 gB36 gB2 (by omega) (rfl) (hSB) (hwe) (hsB.2.1.trans hU1) (hsB.2.2.1.trans hP1) (hsB.2.2.2.1.trans h181) (by omega)
    refine ww_lo [4, 5, 6, 7, 8, 3, 2, 1, 0] (lo' := [(0, .ref (a 0)), (1, .int (nI jk)), (2, .int (nI jt)), (3, .int (nI jy)), (4, .int (nI jn)), (5, .int (nI 0)), (6, .int (nI (sD (xS X)))), (7, .int (-6)), (8, .int (nI 8))]) rfl ?_
    exact LP_4 _ 9 (-6) (sD (xS X)) (upd v 0 (nI 0)) f1 f17 f21 f22 f23 f24 f25 f26 f27 f28 f29 f31 f32 f33 f34 f35 f36 f2 (by decide) (rfl) (hS) (hO.1) (hU) (hPd.1) (h18) (Nat.lt_succ_self _)
set_option maxHeartbeats 4000000 in
set_option maxRecDepth 100000 in
theorem c_X9_put (l : Launch) (G : GG) (h : Nat) (w : va_W) (X : SX) (c : Int64) (hRX : RMX G h w X) : MT l G yX9_put cX9_put 8 (some .int) 2 0 0 [.ref h, .long c] ((w)) (fun v9 ws9 => ∃ (w2 : va_W), v9 = some (.int ((o_put X c).1)) ∧ ws9 = ((w2)) ∧ RMX G h w2 (o_put X c).2) := by
  refine RMX_elim hRX (fun a v f1 f2 f3 f5 f6 f7 f17 f21 f22 f23 f24 f25 f26 f27 f28 f29 f31 f32 f33 f34 f35 f36 f37 f38 f41 hw9 hh hO hS hU hUn hSl hPd h18 => ?_)
  subst hw9
  subst hh
  refine MT.of RX9 [(0, .ref (a 0)), (1, .long c)] (by decide +kernel) rfl rfl (Nat.le_of_ble_eq_true rfl) (fun κ C E hl9 hG9 hnm9 => ?_)
  subst hl9; subst hG9
  have hn12 := hO.1.2.2.2.1.1
  have hj100 := hO.1.2.2.2.2
  have hz6 := hO.2.1.1
  have hp60 := hO.2.2.2.1
  have hd8 := hO.1.1
  have hl1 := hO.1.2.1
  have hzT := hO.1.2.2.1
  refine w_aload_n (nx := 1) C 0 dX9_put_0 rfl rfl rfl ?_
  refine w_iconst (nx := 2) C (nI 0) dX9_put_1 rfl (by decide) ?_
  refine w_putM (nx := 5) (ws2 := [(a 0, mO a (upd v 0 (nI 0))), (a 1, aI (kG κ) 800 f1), (a 2, aI (kG κ) 800 f2), (a 3, aI (kG κ) 4800 f3), (a 5, aI (kG κ) 1600 f5), (a 6, aZ (kG κ) 2 f6), (a 7, aI (kG κ) 60 f7), (a 17, aI (kG κ) 12 f17), (a 21, aI (kG κ) 12 f21), (a 22, aI (kG κ) 12 f22), (a 23, aI (kG κ) 12 f23), (a 24, aI (kG κ) 12 f24), (a 25, aI (kG κ) 12 f25), (a 26, aI (kG κ) 12 f26), (a 27, aI (kG κ) 12 f27), (a 28, aI (kG κ) 12 f28), (a 29, aZ (kG κ) 4 f29), (a 31, aI (kG κ) 1300 f31), (a 32, aI (kG κ) 1300 f32), (a 33, aI (kG κ) 1300 f33), (a 34, aI (kG κ) 1300 f34), (a 35, aI (kG κ) 13000 f35), (a 36, aI (kG κ) 606 f36), (a 37, aI (kG κ) 12 f37), (a 38, aI (kG κ) 12 f38), (a 41, aI (kG κ) 64 f41)]) C 0 0 dX9_put_2 rfl wl_X9_90 rfl (by decide) rfl rfl rfl (ms_0 _ _ _) rfl ?_
  refine w_iconst (nx := 6) C (nI 0) dX9_put_5 rfl (by decide) ?_
  refine w_istore_n (nx := 7) (lo2 := [(3, .int (nI 0)), (0, .ref (a 0)), (1, .long c)]) C dX9_put_6 rfl rfl (by decide) rfl ?_
  refine w_lload_n (nx := 8) C 2 dX9_put_7 rfl rfl rfl ?_
  refine w_lstore (nx := 10) (lo2 := [(4, .long c), (3, .int (nI 0)), (0, .ref (a 0)), (1, .long c)]) C dX9_put_8 rfl (by decide) rfl ?_
  refine w_iconst (nx := 11) C (nI 1) dX9_put_10 rfl (by decide) ?_
  refine w_top (bC (∀ z, z < 0 → 33 ≤ byt (uL c) z ∧ byt (uL c) z ≤ 126)) (bC_1 (fun z hz => absurd hz (Nat.not_lt_zero _))) ?_
  refine w_istore (nx := 13) (lo2 := [(6, .int (bC (∀ z, z < 0 → 33 ≤ byt (uL c) z ∧ byt (uL c) z ≤ 126))), (4, .long c), (3, .int (nI 0)), (0, .ref (a 0)), (1, .long c)]) C dX9_put_11 rfl (by decide) rfl ?_
  have LP_1 : ∀ (N9_13 : Nat) (j : Nat) (q : Int64), (j ≤ 8) → (uL q = uL c / 256 ^ j) → (∀ z, z < j → ¬ byt (uL c) z = 0) → (8 - j) < N9_13 → WW κ 0 0 [(a 0, mO a (upd v 0 (nI 0))), (a 1, aI (kG κ) 800 f1), (a 2, aI (kG κ) 800 f2), (a 3, aI (kG κ) 4800 f3), (a 5, aI (kG κ) 1600 f5), (a 6, aZ (kG κ) 2 f6), (a 7, aI (kG κ) 60 f7), (a 17, aI (kG κ) 12 f17), (a 21, aI (kG κ) 12 f21), (a 22, aI (kG κ) 12 f22), (a 23, aI (kG κ) 12 f23), (a 24, aI (kG κ) 12 f24), (a 25, aI (kG κ) 12 f25), (a 26, aI (kG κ) 12 f26), (a 27, aI (kG κ) 12 f27), (a 28, aI (kG κ) 12 f28), (a 29, aZ (kG κ) 4 f29), (a 31, aI (kG κ) 1300 f31), (a 32, aI (kG κ) 1300 f32), (a 33, aI (kG κ) 1300 f33), (a 34, aI (kG κ) 1300 f34), (a 35, aI (kG κ) 13000 f35), (a 36, aI (kG κ) 606 f36), (a 37, aI (kG κ) 12 f37), (a 38, aI (kG κ) 12 f38), (a 41, aI (kG κ) 64 f41)] 13 [(0, .ref (a 0)), (1, .long c), (3, .int (nI j)), (4, .long q), (6, .int (bC (∀ z, z < j → 33 ≤ byt (uL c) z ∧ byt (uL c) z ≤ 126)))] [] := by
    intro N9_13
    induction N9_13 with
    | zero => intro j q hj hq hnz hm9_13; exact absurd hm9_13 (Nat.not_lt_zero _)
    | succ N9_13 ih9_13 =>
      intro j q hj hq hnz hm9_13
      refine w_iload_n (nx := 14) C 2 dX9_put_13 rfl rfl rfl ?_
      refine w_bipush (nx := 16) C (nI 8) dX9_put_14 rfl (by decide) ?_
      refine n_icmp_ge (tg := 72) (nx := 19) C dX9_put_16 rfl rfl (by omega) (by omega) (fun h_2 => ?_) (fun h_2 => ?_)
      · have hend : j = 8 ∨ byt (uL c) j = 0 := Or.inl (by omega)
        refine w_iload_n (nx := 73) C 2 dX9_put_72 rfl rfl rfl ?_
        refine n_if_eq (tg := 88) (nx := 76) C dX9_put_73 rfl rfl (by omega) (fun h_3 => ?_) (fun h_3 => ?_)
        · have hj0 : j = 0 := by omega
          have hs0 : sgnN (uL c) 8 0 = 0 := by
            subst hj0
            by_cases e9 : uL c / 256 ^ 0 = 0
            · exact sgn_ok (by decide) (fun z hz => absurd hz (Nat.not_lt_zero _)) e9
            · exact sgn_end (uL_lt c) (by decide) (fun z hz => absurd hz (Nat.not_lt_zero _)) hend e9
          refine w_bipush (nx := 90) C (-2) dX9_put_88 rfl (by decide) ?_
          have ho9 : o_put X c = ((-2), X) := by unfold o_put; rw [if_pos hs0]
          refine w_iret (ty := .int) C E dX9_put_90 rfl rfl (Nat.le_refl _) (Nat.le_refl _) ?_
          rw [ho9]
          exact ⟨_, rfl, rfl, _, _, _, _, _, _, _, _, _, _, _, _, _, _, _, _, _, _, _, _, _, _, _, _, _, _, _, rfl, rfl, hO, hS, hU, hUn, hSl, hPd, h18⟩
        · have hj0 : ¬ j = 0 := by omega
          refine w_iload (nx := 78) C 4 dX9_put_76 rfl rfl ?_
          refine b_if_eq (tg := 88) (nx := 81) C dX9_put_78 rfl rfl (fun h_4 => ?_) (fun h_4 => ?_)
          · have hs0 := sgn_bad j hj hnz h_4
            refine w_bipush (nx := 90) C (-2) dX9_put_88 rfl (by decide) ?_
            have ho9 : o_put X c = ((-2), X) := by unfold o_put; rw [if_pos hs0]
            refine w_iret (ty := .int) C E dX9_put_90 rfl rfl (Nat.le_refl _) (Nat.le_refl _) ?_
            rw [ho9]
            exact ⟨_, rfl, rfl, _, _, _, _, _, _, _, _, _, _, _, _, _, _, _, _, _, _, _, _, _, _, _, _, _, _, _, rfl, rfl, hO, hS, hU, hUn, hSl, hPd, h18⟩
          · have hpv := h_4
            refine w_lload (nx := 83) C 3 dX9_put_81 rfl rfl ?_
            refine w_lconst (nx := 84) C 0 dX9_put_83 rfl (by decide) ?_
            refine w_lcmp (nx := 85) C (lg_cmp q 0) dX9_put_84 rfl rfl ?_
            refine w_if_eq (tg := 91) (nx := 88) C dX9_put_85 rfl rfl (fun h_5 => ?_) (fun h_5 => ?_)
            · have hsj := sgn_ok hj hpv (by rw [← hq]; exact uL_0.mp h_5)
              refine w_aload_n (nx := 92) C 0 dX9_put_91 rfl rfl rfl ?_
              refine w_getM (nx := 95) C (.int (v 8)) 0 8 dX9_put_92 rfl wl_X9_231 rfl (by decide) rfl (mg_8 _ _) ?_
              refine w_top (nI ((xP X).1)) hPd.1 ?_
              refine w_iload_n (nx := 96) C 2 dX9_put_95 rfl rfl rfl ?_
              refine w_iadd (nx := 97) C (nI ((xP X).1 + j)) dX9_put_96 rfl (nI_add _ _) ?_
              refine w_bipush (nx := 99) C (nI 60) dX9_put_97 rfl (by decide) ?_
              refine n_icmp_le (tg := 105) (nx := 102) C dX9_put_99 rfl rfl (by omega) (by omega) (fun h_6 => ?_) (fun h_6 => ?_)
              · have hle : ¬ 60 < j + (xP X).1 := by omega
                refine w_iconst (nx := 106) C (nI 0) dX9_put_105 rfl (by decide) ?_
                refine w_istore (nx := 108) (lo2 := [(7, .int (nI 0)), (0, .ref (a 0)), (1, .long c), (3, .int (nI j)), (4, .long q), (6, .int (bC (∀ z, z < j → 33 ≤ byt (uL c) z ∧ byt (uL c) z ≤ 126)))]) C dX9_put_106 rfl (by decide) rfl ?_
                have LP_7 : ∀ (N9_108 : Nat) (k : Nat) (g7 : Nat → Int32), (k ≤ j) → (∀ i, i < (xP X).1 → g7 i = f7 i) → (∀ i, i < k → g7 ((xP X).1 + i) = nI (byt (uL c) (j - 1 - i))) → (j - k) < N9_108 → WW κ 0 0 [(a 0, mO a (upd v 0 (nI 0))), (a 1, aI (kG κ) 800 f1), (a 2, aI (kG κ) 800 f2), (a 3, aI (kG κ) 4800 f3), (a 5, aI (kG κ) 1600 f5), (a 6, aZ (kG κ) 2 f6), (a 7, aI (kG κ) 60 g7), (a 17, aI (kG κ) 12 f17), (a 21, aI (kG κ) 12 f21), (a 22, aI (kG κ) 12 f22), (a 23, aI (kG κ) 12 f23), (a 24, aI (kG κ) 12 f24), (a 25, aI (kG κ) 12 f25), (a 26, aI (kG κ) 12 f26), (a 27, aI (kG κ) 12 f27), (a 28, aI (kG κ) 12 f28), (a 29, aZ (kG κ) 4 f29), (a 31, aI (kG κ) 1300 f31), (a 32, aI (kG κ) 1300 f32), (a 33, aI (kG κ) 1300 f33), (a 34, aI (kG κ) 1300 f34), (a 35, aI (kG κ) 13000 f35), (a 36, aI (kG κ) 606 f36), (a 37, aI (kG κ) 12 f37), (a 38, aI (kG κ) 12 f38), (a 41, aI (kG κ) 64 f41)] 108 [(0, .ref (a 0)), (1, .long c), (3, .int (nI j)), (7, .int (nI k))] [] := by
                  intro N9_108
                  induction N9_108 with
                  | zero => intro k g7 hk hg1 hg2 hm9_108; exact absurd hm9_108 (Nat.not_lt_zero _)
                  | succ N9_108 ih9_108 =>
                    intro k g7 hk hg1 hg2 hm9_108
                    refine w_iload (nx := 110) C 3 dX9_put_108 rfl rfl ?_
                    refine w_iload_n (nx := 111) C 2 dX9_put_110 rfl rfl rfl ?_
                    refine n_icmp_ge (tg := 148) (nx := 114) C dX9_put_111 rfl rfl (by omega) (by omega) (fun h_8 => ?_) (fun h_8 => ?_)
                    · have hkj : k = j := by omega
                      refine w_aload_n (nx := 149) C 0 dX9_put_148 rfl rfl rfl ?_
                      refine w_dup (nx := 150) C dX9_put_149 rfl rfl ?_
                      refine w_getM (nx := 153) C (.int (v 8)) 0 8 dX9_put_150 rfl wl_X9_231 rfl (by decide) rfl (mg_8 _ _) ?_
                      refine w_top (nI ((xP X).1)) hPd.1 ?_
                      refine w_iload_n (nx := 154) C 2 dX9_put_153 rfl rfl rfl ?_
                      refine w_iadd (nx := 155) C (nI ((xP X).1 + j)) dX9_put_154 rfl (nI_add _ _) ?_
                      refine w_putM (nx := 158) (ws2 := [(a 0, mO a (upd (upd v 0 (nI 0)) 8 (nI ((xP X).1 + j)))), (a 1, aI (kG κ) 800 f1), (a 2, aI (kG κ) 800 f2), (a 3, aI (kG κ) 4800 f3), (a 5, aI (kG κ) 1600 f5), (a 6, aZ (kG κ) 2 f6), (a 7, aI (kG κ) 60 g7), (a 17, aI (kG κ) 12 f17), (a 21, aI (kG κ) 12 f21), (a 22, aI (kG κ) 12 f22), (a 23, aI (kG κ) 12 f23), (a 24, aI (kG κ) 12 f24), (a 25, aI (kG κ) 12 f25), (a 26, aI (kG κ) 12 f26), (a 27, aI (kG κ) 12 f27), (a 28, aI (kG κ) 12 f28), (a 29, aZ (kG κ) 4 f29), (a 31, aI (kG κ) 1300 f31), (a 32, aI (kG κ) 1300 f32), (a 33, aI (kG κ) 1300 f33), (a 34, aI (kG κ) 1300 f34), (a 35, aI (kG κ) 13000 f35), (a 36, aI (kG κ) 606 f36), (a 37, aI (kG κ) 12 f37), (a 38, aI (kG κ) 12 f38), (a 41, aI (kG κ) 64 f41)]) C 0 8 dX9_put_155 rfl wl_X9_231 rfl (by decide) rfl rfl rfl (ms_8 _ _ _) rfl ?_
                      refine w_aload_n (nx := 159) C 0 dX9_put_158 rfl rfl rfl ?_
                      refine w_getM (nx := 162) C (.int (nI ((xP X).1 + j))) 0 8 dX9_put_159 rfl wl_X9_231 rfl (by decide) rfl (mg_8 _ _) ?_
                      have ho9 : o_put X c = ((nI ((xP X).1 + j)), (xS X, xH X, xL X, putP (xP X) (uL c) j)) := by unfold o_put; rw [hsj, if_neg hj0, if_neg hle]
                      have hw9 : wfO (xS X, xH X, xL X, putP (xP X) (uL c) j) := by
                        have z9 : wfO (o_put X c).2 := w_o_put hO
                        rw [ho9] at z9
                        exact z9
                      refine w_iret (ty := .int) C E dX9_put_162 rfl rfl (Nat.le_refl _) (Nat.le_refl _) ?_
                      rw [ho9]
                      exact ⟨_, rfl, rfl, _, _, _, _, _, _, _, _, _, _, _, _, _, _, _, _, _, _, _, _, _, _, _, _, _, _, _, rfl, rfl, hw9, hS, hU, hUn, hSl, (⟨rfl, fun i hi => by
                            show g7 i = nI (if i < (xP X).1 then (xP X).2 i else byt (uL c) (j - 1 - (i - (xP X).1)))
                            have hi2 : i < (xP X).1 + j := hi
                            by_cases q9 : i < (xP X).1
                            · rw [if_pos q9, hg1 i q9]; exact hPd.2 i q9
                            · rw [if_neg q9, show g7 i = g7 ((xP X).1 + (i - (xP X).1)) from congrArg g7 (by omega)]; exact hg2 _ (by omega)⟩), h18⟩
                    · refine w_aload_n (nx := 115) C 0 dX9_put_114 rfl rfl rfl ?_
                      refine w_getM (nx := 118) C (.ref (a 7)) 0 7 dX9_put_115 rfl wl_X9_26 rfl (by decide) rfl (mg_7 _ _) ?_
                      refine w_aload_n (nx := 119) C 0 dX9_put_118 rfl rfl rfl ?_
                      refine w_getM (nx := 122) C (.int (v 8)) 0 8 dX9_put_119 rfl wl_X9_231 rfl (by decide) rfl (mg_8 _ _) ?_
                      refine w_top (nI ((xP X).1)) hPd.1 ?_
                      refine w_iload (nx := 124) C 3 dX9_put_122 rfl rfl ?_
                      refine w_iadd (nx := 125) C (nI ((xP X).1 + k)) dX9_put_124 rfl (nI_add _ _) ?_
                      refine w_lload_n (nx := 126) C 1 dX9_put_125 rfl rfl rfl ?_
                      refine w_bipush (nx := 128) C (nI 8) dX9_put_126 rfl (by decide) ?_
                      refine w_iload_n (nx := 129) C 2 dX9_put_128 rfl rfl rfl ?_
                      refine w_iconst (nx := 130) C (nI 1) dX9_put_129 rfl (by decide) ?_
                      refine w_isub (nx := 131) C (nI (j - 1)) dX9_put_130 rfl (pk_sub (by omega)) ?_
                      refine w_iload (nx := 133) C 3 dX9_put_131 rfl rfl ?_
                      refine w_isub (nx := 134) C (nI (j - 1 - k)) dX9_put_133 rfl (pk_sub (by omega)) ?_
                      refine w_imul (nx := 135) C (nI (8 * (j - 1 - k))) dX9_put_134 rfl (pk_mul _ _) ?_
                      refine w_lushr (nx := 136) C ((c.toUInt64 >>> ((nI (8 * (j - 1 - k))).toInt64.toUInt64 &&& Int64.toUInt64 63)).toInt64) dX9_put_135 rfl rfl ?_
                      refine w_ldc2 (nx := 139) C 255 dX9_put_136 rfl wk_X9_234 ?_
                      refine w_land (nx := 140) C ((c.toUInt64 >>> ((nI (8 * (j - 1 - k))).toInt64.toUInt64 &&& Int64.toUInt64 63)).toInt64 &&& 255) dX9_put_139 rfl rfl ?_
                      refine w_l2i (nx := 141) C (nI (byt (uL c) (j - 1 - k))) dX9_put_140 rfl ((uL_and _).trans (by rw [uL_shr c (by omega), p256])) ?_
                      refine w_iast (nx := 142) (ws2 := [(a 0, mO a (upd v 0 (nI 0))), (a 1, aI (kG κ) 800 f1), (a 2, aI (kG κ) 800 f2), (a 3, aI (kG κ) 4800 f3), (a 5, aI (kG κ) 1600 f5), (a 6, aZ (kG κ) 2 f6), (a 7, aI (kG κ) 60 (upd g7 ((xP X).1 + k) (nI (byt (uL c) (j - 1 - k))))), (a 17, aI (kG κ) 12 f17), (a 21, aI (kG κ) 12 f21), (a 22, aI (kG κ) 12 f22), (a 23, aI (kG κ) 12 f23), (a 24, aI (kG κ) 12 f24), (a 25, aI (kG κ) 12 f25), (a 26, aI (kG κ) 12 f26), (a 27, aI (kG κ) 12 f27), (a 28, aI (kG κ) 12 f28), (a 29, aZ (kG κ) 4 f29), (a 31, aI (kG κ) 1300 f31), (a 32, aI (kG κ) 1300 f32), (a 33, aI (kG κ) 1300 f33), (a 34, aI (kG κ) 1300 f34), (a 35, aI (kG κ) 13000 f35), (a 36, aI (kG κ) 606 f36), (a 37, aI (kG κ) 12 f37), (a 38, aI (kG κ) 12 f38), (a 41, aI (kG κ) 64 f41)]) C 6 ((xP X).1 + k) dX9_put_141 rfl rfl (by decide) rfl (by omega) rfl ?_
                      refine w_iinc (nx := 145) (lo2 := [(7, .int (nI (k + 1))), (0, .ref (a 0)), (1, .long c), (3, .int (nI j))]) C (nI (k + 1)) 3 dX9_put_142 rfl rfl (nI_add _ _) (by decide) rfl ?_
                      refine w_goto (nx := 108) C dX9_put_145 rfl ?_
                      refine ww_lo [1, 2, 3, 0] (lo' := [(0, .ref (a 0)), (1, .long c), (3, .int (nI j)), (7, .int (nI (k + 1)))]) rfl ?_
                      exact ih9_108 (k + 1) (upd g7 ((xP X).1 + k) (nI (byt (uL c) (j - 1 - k)))) (by first | assumption | omega) (fun i hi => (upd_n (by omega)).trans (hg1 i hi)) (fun i hi => (Nat.lt_or_ge i k).elim (fun z => (upd_n (by omega)).trans (hg2 i z)) (fun z => by have e9 : i = k := (by omega); subst e9; exact upd_e rfl)) (by omega)
                refine ww_lo [1, 2, 3, 0] (lo' := [(0, .ref (a 0)), (1, .long c), (3, .int (nI j)), (7, .int (nI 0))]) rfl ?_
                exact LP_7 _ 0 f7 (Nat.zero_le _) (fun _ _ => rfl) (fun i hi => absurd hi (Nat.not_lt_zero _)) (Nat.lt_succ_self _)
              · have hle : 60 < j + (xP X).1 := by omega
                refine w_bipush (nx := 104) C (-4) dX9_put_102 rfl (by decide) ?_
                have ho9 : o_put X c = ((-4), X) := by unfold o_put; rw [hsj, if_neg hj0, if_pos hle]
                refine w_iret (ty := .int) C E dX9_put_104 rfl rfl (Nat.le_refl _) (Nat.le_refl _) ?_
                rw [ho9]
                exact ⟨_, rfl, rfl, _, _, _, _, _, _, _, _, _, _, _, _, _, _, _, _, _, _, _, _, _, _, _, _, _, _, _, rfl, rfl, hO, hS, hU, hUn, hSl, hPd, h18⟩
            · have hs0 := sgn_end (uL_lt c) hj hpv hend (fun e => h_5 (uL_0.mpr (by rw [hq]; exact e)))
              refine w_bipush (nx := 90) C (-2) dX9_put_88 rfl (by decide) ?_
              have ho9 : o_put X c = ((-2), X) := by unfold o_put; rw [if_pos hs0]
              refine w_iret (ty := .int) C E dX9_put_90 rfl rfl (Nat.le_refl _) (Nat.le_refl _) ?_
              rw [ho9]
              exact ⟨_, rfl, rfl, _, _, _, _, _, _, _, _, _, _, _, _, _, _, _, _, _, _, _, _, _, _, _, _, _, _, _, rfl, rfl, hO, hS, hU, hUn, hSl, hPd, h18⟩
      · refine w_lload (nx := 21) C 3 dX9_put_19 rfl rfl ?_
        refine w_ldc2 (nx := 24) C 255 dX9_put_21 rfl wk_X9_234 ?_
        refine w_land (nx := 25) C (q &&& 255) dX9_put_24 rfl rfl ?_
        refine w_lconst (nx := 26) C 0 dX9_put_25 rfl (by decide) ?_
        refine w_lcmp (nx := 27) C (lg_cmp (q &&& 255) 0) dX9_put_26 rfl rfl ?_
        refine w_if_eq (tg := 72) (nx := 30) C dX9_put_27 rfl rfl (fun h_9 => ?_) (fun h_9 => ?_)
        · have hz8 := uL_0.mp h_9
          rw [uL_and255, hq] at hz8
          have hend : j = 8 ∨ byt (uL c) j = 0 := Or.inr hz8
          refine w_iload_n (nx := 73) C 2 dX9_put_72 rfl rfl rfl ?_
          refine n_if_eq (tg := 88) (nx := 76) C dX9_put_73 rfl rfl (by omega) (fun h_10 => ?_) (fun h_10 => ?_)
          · have hj0 : j = 0 := by omega
            have hs0 : sgnN (uL c) 8 0 = 0 := by
              subst hj0
              by_cases e9 : uL c / 256 ^ 0 = 0
              · exact sgn_ok (by decide) (fun z hz => absurd hz (Nat.not_lt_zero _)) e9
              · exact sgn_end (uL_lt c) (by decide) (fun z hz => absurd hz (Nat.not_lt_zero _)) hend e9
            refine w_bipush (nx := 90) C (-2) dX9_put_88 rfl (by decide) ?_
            have ho9 : o_put X c = ((-2), X) := by unfold o_put; rw [if_pos hs0]
            refine w_iret (ty := .int) C E dX9_put_90 rfl rfl (Nat.le_refl _) (Nat.le_refl _) ?_
            rw [ho9]
            exact ⟨_, rfl, rfl, _, _, _, _, _, _, _, _, _, _, _, _, _, _, _, _, _, _, _, _, _, _, _, _, _, _, _, rfl, rfl, hO, hS, hU, hUn, hSl, hPd, h18⟩
          · have hj0 : ¬ j = 0 := by omega
            refine w_iload (nx := 78) C 4 dX9_put_76 rfl rfl ?_
            refine b_if_eq (tg := 88) (nx := 81) C dX9_put_78 rfl rfl (fun h_11 => ?_) (fun h_11 => ?_)
            · have hs0 := sgn_bad j hj hnz h_11
              refine w_bipush (nx := 90) C (-2) dX9_put_88 rfl (by decide) ?_
              have ho9 : o_put X c = ((-2), X) := by unfold o_put; rw [if_pos hs0]
              refine w_iret (ty := .int) C E dX9_put_90 rfl rfl (Nat.le_refl _) (Nat.le_refl _) ?_
              rw [ho9]
              exact ⟨_, rfl, rfl, _, _, _, _, _, _, _, _, _, _, _, _, _, _, _, _, _, _, _, _, _, _, _, _, _, _, _, rfl, rfl, hO, hS, hU, hUn, hSl, hPd, h18⟩
            · have hpv := h_11
              refine w_lload (nx := 83) C 3 dX9_put_81 rfl rfl ?_
              refine w_lconst (nx := 84) C 0 dX9_put_83 rfl (by decide) ?_
              refine w_lcmp (nx := 85) C (lg_cmp q 0) dX9_put_84 rfl rfl ?_
              refine w_if_eq (tg := 91) (nx := 88) C dX9_put_85 rfl rfl (fun h_12 => ?_) (fun h_12 => ?_)
              · have hsj := sgn_ok hj hpv (by rw [← hq]; exact uL_0.mp h_12)
                refine w_aload_n (nx := 92) C 0 dX9_put_91 rfl rfl rfl ?_
                refine w_getM (nx := 95) C (.int (v 8)) 0 8 dX9_put_92 rfl wl_X9_231 rfl (by decide) rfl (mg_8 _ _) ?_
                refine w_top (nI ((xP X).1)) hPd.1 ?_
                refine w_iload_n (nx := 96) C 2 dX9_put_95 rfl rfl rfl ?_
                refine w_iadd (nx := 97) C (nI ((xP X).1 + j)) dX9_put_96 rfl (nI_add _ _) ?_
                refine w_bipush (nx := 99) C (nI 60) dX9_put_97 rfl (by decide) ?_
                refine n_icmp_le (tg := 105) (nx := 102) C dX9_put_99 rfl rfl (by omega) (by omega) (fun h_13 => ?_) (fun h_13 => ?_)
                · have hle : ¬ 60 < j + (xP X).1 := by omega
                  refine w_iconst (nx := 106) C (nI 0) dX9_put_105 rfl (by decide) ?_
                  refine w_istore (nx := 108) (lo2 := [(7, .int (nI 0)), (0, .ref (a 0)), (1, .long c), (3, .int (nI j)), (4, .long q), (6, .int (bC (∀ z, z < j → 33 ≤ byt (uL c) z ∧ byt (uL c) z ≤ 126)))]) C dX9_put_106 rfl (by decide) rfl ?_
                  have LP_14 : ∀ (N9_108 : Nat) (k : Nat) (g7 : Nat → Int32), (k ≤ j) → (∀ i, i < (xP X).1 → g7 i = f7 i) → (∀ i, i < k → g7 ((xP X).1 + i) = nI (byt (uL c) (j - 1 - i))) → (j - k) < N9_108 → WW κ 0 0 [(a 0, mO a (upd v 0 (nI 0))), (a 1, aI (kG κ) 800 f1), (a 2, aI (kG κ) 800 f2), (a 3, aI (kG κ) 4800 f3), (a 5, aI (kG κ) 1600 f5), (a 6, aZ (kG κ) 2 f6), (a 7, aI (kG κ) 60 g7), (a 17, aI (kG κ) 12 f17), (a 21, aI (kG κ) 12 f21), (a 22, aI (kG κ) 12 f22), (a 23, aI (kG κ) 12 f23), (a 24, aI (kG κ) 12 f24), (a 25, aI (kG κ) 12 f25), (a 26, aI (kG κ) 12 f26), (a 27, aI (kG κ) 12 f27), (a 28, aI (kG κ) 12 f28), (a 29, aZ (kG κ) 4 f29), (a 31, aI (kG κ) 1300 f31), (a 32, aI (kG κ) 1300 f32), (a 33, aI (kG κ) 1300 f33), (a 34, aI (kG κ) 1300 f34), (a 35, aI (kG κ) 13000 f35), (a 36, aI (kG κ) 606 f36), (a 37, aI (kG κ) 12 f37), (a 38, aI (kG κ) 12 f38), (a 41, aI (kG κ) 64 f41)] 108 [(0, .ref (a 0)), (1, .long c), (3, .int (nI j)), (7, .int (nI k))] [] := by
                    intro N9_108
                    induction N9_108 with
                    | zero => intro k g7 hk hg1 hg2 hm9_108; exact absurd hm9_108 (Nat.not_lt_zero _)
                    | succ N9_108 ih9_108 =>
                      intro k g7 hk hg1 hg2 hm9_108
                      refine w_iload (nx := 110) C 3 dX9_put_108 rfl rfl ?_
                      refine w_iload_n (nx := 111) C 2 dX9_put_110 rfl rfl rfl ?_
                      refine n_icmp_ge (tg := 148) (nx := 114) C dX9_put_111 rfl rfl (by omega) (by omega) (fun h_15 => ?_) (fun h_15 => ?_)
                      · have hkj : k = j := by omega
                        refine w_aload_n (nx := 149) C 0 dX9_put_148 rfl rfl rfl ?_
                        refine w_dup (nx := 150) C dX9_put_149 rfl rfl ?_
                        refine w_getM (nx := 153) C (.int (v 8)) 0 8 dX9_put_150 rfl wl_X9_231 rfl (by decide) rfl (mg_8 _ _) ?_
                        refine w_top (nI ((xP X).1)) hPd.1 ?_
                        refine w_iload_n (nx := 154) C 2 dX9_put_153 rfl rfl rfl ?_
                        refine w_iadd (nx := 155) C (nI ((xP X).1 + j)) dX9_put_154 rfl (nI_add _ _) ?_
                        refine w_putM (nx := 158) (ws2 := [(a 0, mO a (upd (upd v 0 (nI 0)) 8 (nI ((xP X).1 + j)))), (a 1, aI (kG κ) 800 f1), (a 2, aI (kG κ) 800 f2), (a 3, aI (kG κ) 4800 f3), (a 5, aI (kG κ) 1600 f5), (a 6, aZ (kG κ) 2 f6), (a 7, aI (kG κ) 60 g7), (a 17, aI (kG κ) 12 f17), (a 21, aI (kG κ) 12 f21), (a 22, aI (kG κ) 12 f22), (a 23, aI (kG κ) 12 f23), (a 24, aI (kG κ) 12 f24), (a 25, aI (kG κ) 12 f25), (a 26, aI (kG κ) 12 f26), (a 27, aI (kG κ) 12 f27), (a 28, aI (kG κ) 12 f28), (a 29, aZ (kG κ) 4 f29), (a 31, aI (kG κ) 1300 f31), (a 32, aI (kG κ) 1300 f32), (a 33, aI (kG κ) 1300 f33), (a 34, aI (kG κ) 1300 f34), (a 35, aI (kG κ) 13000 f35), (a 36, aI (kG κ) 606 f36), (a 37, aI (kG κ) 12 f37), (a 38, aI (kG κ) 12 f38), (a 41, aI (kG κ) 64 f41)]) C 0 8 dX9_put_155 rfl wl_X9_231 rfl (by decide) rfl rfl rfl (ms_8 _ _ _) rfl ?_
                        refine w_aload_n (nx := 159) C 0 dX9_put_158 rfl rfl rfl ?_
                        refine w_getM (nx := 162) C (.int (nI ((xP X).1 + j))) 0 8 dX9_put_159 rfl wl_X9_231 rfl (by decide) rfl (mg_8 _ _) ?_
                        have ho9 : o_put X c = ((nI ((xP X).1 + j)), (xS X, xH X, xL X, putP (xP X) (uL c) j)) := by unfold o_put; rw [hsj, if_neg hj0, if_neg hle]
                        have hw9 : wfO (xS X, xH X, xL X, putP (xP X) (uL c) j) := by
                          have z9 : wfO (o_put X c).2 := w_o_put hO
                          rw [ho9] at z9
                          exact z9
                        refine w_iret (ty := .int) C E dX9_put_162 rfl rfl (Nat.le_refl _) (Nat.le_refl _) ?_
                        rw [ho9]
                        exact ⟨_, rfl, rfl, _, _, _, _, _, _, _, _, _, _, _, _, _, _, _, _, _, _, _, _, _, _, _, _, _, _, _, rfl, rfl, hw9, hS, hU, hUn, hSl, (⟨rfl, fun i hi => by
                              show g7 i = nI (if i < (xP X).1 then (xP X).2 i else byt (uL c) (j - 1 - (i - (xP X).1)))
                              have hi2 : i < (xP X).1 + j := hi
                              by_cases q9 : i < (xP X).1
                              · rw [if_pos q9, hg1 i q9]; exact hPd.2 i q9
                              · rw [if_neg q9, show g7 i = g7 ((xP X).1 + (i - (xP X).1)) from congrArg g7 (by omega)]; exact hg2 _ (by omega)⟩), h18⟩
                      · refine w_aload_n (nx := 115) C 0 dX9_put_114 rfl rfl rfl ?_
                        refine w_getM (nx := 118) C (.ref (a 7)) 0 7 dX9_put_115 rfl wl_X9_26 rfl (by decide) rfl (mg_7 _ _) ?_
                        refine w_aload_n (nx := 119) C 0 dX9_put_118 rfl rfl rfl ?_
                        refine w_getM (nx := 122) C (.int (v 8)) 0 8 dX9_put_119 rfl wl_X9_231 rfl (by decide) rfl (mg_8 _ _) ?_
                        refine w_top (nI ((xP X).1)) hPd.1 ?_
                        refine w_iload (nx := 124) C 3 dX9_put_122 rfl rfl ?_
                        refine w_iadd (nx := 125) C (nI ((xP X).1 + k)) dX9_put_124 rfl (nI_add _ _) ?_
                        refine w_lload_n (nx := 126) C 1 dX9_put_125 rfl rfl rfl ?_
                        refine w_bipush (nx := 128) C (nI 8) dX9_put_126 rfl (by decide) ?_
                        refine w_iload_n (nx := 129) C 2 dX9_put_128 rfl rfl rfl ?_
                        refine w_iconst (nx := 130) C (nI 1) dX9_put_129 rfl (by decide) ?_
                        refine w_isub (nx := 131) C (nI (j - 1)) dX9_put_130 rfl (pk_sub (by omega)) ?_
                        refine w_iload (nx := 133) C 3 dX9_put_131 rfl rfl ?_
                        refine w_isub (nx := 134) C (nI (j - 1 - k)) dX9_put_133 rfl (pk_sub (by omega)) ?_
                        refine w_imul (nx := 135) C (nI (8 * (j - 1 - k))) dX9_put_134 rfl (pk_mul _ _) ?_
                        refine w_lushr (nx := 136) C ((c.toUInt64 >>> ((nI (8 * (j - 1 - k))).toInt64.toUInt64 &&& Int64.toUInt64 63)).toInt64) dX9_put_135 rfl rfl ?_
                        refine w_ldc2 (nx := 139) C 255 dX9_put_136 rfl wk_X9_234 ?_
                        refine w_land (nx := 140) C ((c.toUInt64 >>> ((nI (8 * (j - 1 - k))).toInt64.toUInt64 &&& Int64.toUInt64 63)).toInt64 &&& 255) dX9_put_139 rfl rfl ?_
                        refine w_l2i (nx := 141) C (nI (byt (uL c) (j - 1 - k))) dX9_put_140 rfl ((uL_and _).trans (by rw [uL_shr c (by omega), p256])) ?_
                        refine w_iast (nx := 142) (ws2 := [(a 0, mO a (upd v 0 (nI 0))), (a 1, aI (kG κ) 800 f1), (a 2, aI (kG κ) 800 f2), (a 3, aI (kG κ) 4800 f3), (a 5, aI (kG κ) 1600 f5), (a 6, aZ (kG κ) 2 f6), (a 7, aI (kG κ) 60 (upd g7 ((xP X).1 + k) (nI (byt (uL c) (j - 1 - k))))), (a 17, aI (kG κ) 12 f17), (a 21, aI (kG κ) 12 f21), (a 22, aI (kG κ) 12 f22), (a 23, aI (kG κ) 12 f23), (a 24, aI (kG κ) 12 f24), (a 25, aI (kG κ) 12 f25), (a 26, aI (kG κ) 12 f26), (a 27, aI (kG κ) 12 f27), (a 28, aI (kG κ) 12 f28), (a 29, aZ (kG κ) 4 f29), (a 31, aI (kG κ) 1300 f31), (a 32, aI (kG κ) 1300 f32), (a 33, aI (kG κ) 1300 f33), (a 34, aI (kG κ) 1300 f34), (a 35, aI (kG κ) 13000 f35), (a 36, aI (kG κ) 606 f36), (a 37, aI (kG κ) 12 f37), (a 38, aI (kG κ) 12 f38), (a 41, aI (kG κ) 64 f41)]) C 6 ((xP X).1 + k) dX9_put_141 rfl rfl (by decide) rfl (by omega) rfl ?_
                        refine w_iinc (nx := 145) (lo2 := [(7, .int (nI (k + 1))), (0, .ref (a 0)), (1, .long c), (3, .int (nI j))]) C (nI (k + 1)) 3 dX9_put_142 rfl rfl (nI_add _ _) (by decide) rfl ?_
                        refine w_goto (nx := 108) C dX9_put_145 rfl ?_
                        refine ww_lo [1, 2, 3, 0] (lo' := [(0, .ref (a 0)), (1, .long c), (3, .int (nI j)), (7, .int (nI (k + 1)))]) rfl ?_
                        exact ih9_108 (k + 1) (upd g7 ((xP X).1 + k) (nI (byt (uL c) (j - 1 - k)))) (by first | assumption | omega) (fun i hi => (upd_n (by omega)).trans (hg1 i hi)) (fun i hi => (Nat.lt_or_ge i k).elim (fun z => (upd_n (by omega)).trans (hg2 i z)) (fun z => by have e9 : i = k := (by omega); subst e9; exact upd_e rfl)) (by omega)
                  refine ww_lo [1, 2, 3, 0] (lo' := [(0, .ref (a 0)), (1, .long c), (3, .int (nI j)), (7, .int (nI 0))]) rfl ?_
                  exact LP_14 _ 0 f7 (Nat.zero_le _) (fun _ _ => rfl) (fun i hi => absurd hi (Nat.not_lt_zero _)) (Nat.lt_succ_self _)
                · have hle : 60 < j + (xP X).1 := by omega
                  refine w_bipush (nx := 104) C (-4) dX9_put_102 rfl (by decide) ?_
                  have ho9 : o_put X c = ((-4), X) := by unfold o_put; rw [hsj, if_neg hj0, if_pos hle]
                  refine w_iret (ty := .int) C E dX9_put_104 rfl rfl (Nat.le_refl _) (Nat.le_refl _) ?_
                  rw [ho9]
                  exact ⟨_, rfl, rfl, _, _, _, _, _, _, _, _, _, _, _, _, _, _, _, _, _, _, _, _, _, _, _, _, _, _, _, rfl, rfl, hO, hS, hU, hUn, hSl, hPd, h18⟩
              · have hs0 := sgn_end (uL_lt c) hj hpv hend (fun e => h_12 (uL_0.mpr (by rw [hq]; exact e)))
                refine w_bipush (nx := 90) C (-2) dX9_put_88 rfl (by decide) ?_
                have ho9 : o_put X c = ((-2), X) := by unfold o_put; rw [if_pos hs0]
                refine w_iret (ty := .int) C E dX9_put_90 rfl rfl (Nat.le_refl _) (Nat.le_refl _) ?_
                rw [ho9]
                exact ⟨_, rfl, rfl, _, _, _, _, _, _, _, _, _, _, _, _, _, _, _, _, _, _, _, _, _, _, _, _, _, _, _, rfl, rfl, hO, hS, hU, hUn, hSl, hPd, h18⟩
        · have hz9 : ¬ byt (uL c) j = 0 := fun e => h_9 (uL_0.mpr (by rw [uL_and255, hq]; exact e))
          have hb9 := byt_lt (uL c) j
          refine w_iload (nx := 32) C 4 dX9_put_30 rfl rfl ?_
          refine b_if_eq (tg := 56) (nx := 35) C dX9_put_32 rfl rfl (fun h_16 => ?_) (fun h_16 => ?_)
          · have hpv := h_16
            refine w_iconst (nx := 57) C (nI 0) dX9_put_56 rfl (by decide) ?_
            refine w_top (bC (∀ z, z < j + 1 → 33 ≤ byt (uL c) z ∧ byt (uL c) z ≤ 126)) (bC_0 (fun h9 => hpv (fun z hz => h9 z (by omega)))) ?_
            refine w_istore (nx := 59) (lo2 := [(6, .int (bC (∀ z, z < j + 1 → 33 ≤ byt (uL c) z ∧ byt (uL c) z ≤ 126))), (0, .ref (a 0)), (1, .long c), (3, .int (nI j)), (4, .long q)]) C dX9_put_57 rfl (by decide) rfl ?_
            refine w_lload (nx := 61) C 4 dX9_put_59 rfl rfl ?_
            refine w_bipush (nx := 63) C (nI 8) dX9_put_61 rfl (by decide) ?_
            refine w_lushr (nx := 64) C ((q.toUInt64 >>> ((nI 8).toInt64.toUInt64 &&& Int64.toUInt64 63)).toInt64) dX9_put_63 rfl rfl ?_
            refine w_lstore (nx := 66) (lo2 := [(4, .long ((q.toUInt64 >>> ((nI 8).toInt64.toUInt64 &&& Int64.toUInt64 63)).toInt64)), (6, .int (bC (∀ z, z < j + 1 → 33 ≤ byt (uL c) z ∧ byt (uL c) z ≤ 126))), (0, .ref (a 0)), (1, .long c), (3, .int (nI j))]) C dX9_put_64 rfl (by decide) rfl ?_
            refine w_iinc (nx := 69) (lo2 := [(3, .int (nI (j + 1))), (4, .long ((q.toUInt64 >>> ((nI 8).toInt64.toUInt64 &&& Int64.toUInt64 63)).toInt64)), (6, .int (bC (∀ z, z < j + 1 → 33 ≤ byt (uL c) z ∧ byt (uL c) z ≤ 126))), (0, .ref (a 0)), (1, .long c)]) C (nI (j + 1)) 4 dX9_put_66 rfl rfl (nI_add _ _) (by decide) rfl ?_
            refine w_goto (nx := 13) C dX9_put_69 rfl ?_
            refine ww_lo [3, 4, 0, 1, 2] (lo' := [(0, .ref (a 0)), (1, .long c), (3, .int (nI (j + 1))), (4, .long ((q.toUInt64 >>> ((nI 8).toInt64.toUInt64 &&& Int64.toUInt64 63)).toInt64)), (6, .int (bC (∀ z, z < j + 1 → 33 ≤ byt (uL c) z ∧ byt (uL c) z ≤ 126)))]) rfl ?_
            exact ih9_13 (j + 1) ((q.toUInt64 >>> ((nI 8).toInt64.toUInt64 &&& Int64.toUInt64 63)).toInt64) (by omega) (by rw [uL_shr q (s := 8) (by decide), hq, Nat.div_div_eq_div_mul]; rfl) (fun z hz => (Nat.lt_or_ge z j).elim (fun y => hnz z y) (fun y => by have e9 : z = j := (by omega); subst e9; exact hz9)) (by omega)
          · have hpv := h_16
            refine w_lload (nx := 37) C 3 dX9_put_35 rfl rfl ?_
            refine w_ldc2 (nx := 40) C 255 dX9_put_37 rfl wk_X9_234 ?_
            refine w_land (nx := 41) C (q &&& 255) dX9_put_40 rfl rfl ?_
            refine w_l2i (nx := 42) C (nI (byt (uL c) j)) dX9_put_41 rfl ((uL_and q).trans (by rw [hq])) ?_
            refine w_bipush (nx := 44) C (nI 33) dX9_put_42 rfl (by decide) ?_
            refine w_bipush (nx := 46) C (nI 126) dX9_put_44 rfl (by decide) ?_
            refine w_callS (nx := 49) (wr := [(a 0, mO a (upd v 0 (nI 0))), (a 1, aI (kG κ) 800 f1), (a 2, aI (kG κ) 800 f2), (a 3, aI (kG κ) 4800 f3), (a 5, aI (kG κ) 1600 f5), (a 6, aZ (kG κ) 2 f6), (a 7, aI (kG κ) 60 f7), (a 17, aI (kG κ) 12 f17), (a 21, aI (kG κ) 12 f21), (a 22, aI (kG κ) 12 f22), (a 23, aI (kG κ) 12 f23), (a 24, aI (kG κ) 12 f24), (a 25, aI (kG κ) 12 f25), (a 26, aI (kG κ) 12 f26), (a 27, aI (kG κ) 12 f27), (a 28, aI (kG κ) 12 f28), (a 29, aZ (kG κ) 4 f29), (a 31, aI (kG κ) 1300 f31), (a 32, aI (kG κ) 1300 f32), (a 33, aI (kG κ) 1300 f33), (a 34, aI (kG κ) 1300 f34), (a 35, aI (kG κ) 13000 f35), (a 36, aI (kG κ) 606 f36), (a 37, aI (kG κ) 12 f37), (a 38, aI (kG κ) 12 f38), (a 41, aI (kG κ) 64 f41)]) (rest := []) C ms_X9_in (c_X9_in _ _ (nI (byt (uL c) j)) (nI 33) (nI 126)) dX9_put_46 rfl wl_X9_93 rfl (pm_sel [0, 1, 2, 3, 4, 5, 6, 7, 8, 9, 10, 11, 12, 13, 14, 15, 16, 17, 18, 19, 20, 21, 22, 23, 24, 25] 26 (by decide +kernel) rfl rfl) rfl rfl (Nat.le_of_ble_eq_true rfl) (Nat.le_of_ble_eq_true rfl) (Nat.le_of_ble_eq_true rfl) (Nat.zero_le _) (Nat.zero_le _) (fun v9 w9 R_17 => ?_)
            obtain ⟨rfl, rfl⟩ := R_17
            show WW κ 0 0 [(a 0, mO a (upd v 0 (nI 0))), (a 1, aI (kG κ) 800 f1), (a 2, aI (kG κ) 800 f2), (a 3, aI (kG κ) 4800 f3), (a 5, aI (kG κ) 1600 f5), (a 6, aZ (kG κ) 2 f6), (a 7, aI (kG κ) 60 f7), (a 17, aI (kG κ) 12 f17), (a 21, aI (kG κ) 12 f21), (a 22, aI (kG κ) 12 f22), (a 23, aI (kG κ) 12 f23), (a 24, aI (kG κ) 12 f24), (a 25, aI (kG κ) 12 f25), (a 26, aI (kG κ) 12 f26), (a 27, aI (kG κ) 12 f27), (a 28, aI (kG κ) 12 f28), (a 29, aZ (kG κ) 4 f29), (a 31, aI (kG κ) 1300 f31), (a 32, aI (kG κ) 1300 f32), (a 33, aI (kG κ) 1300 f33), (a 34, aI (kG κ) 1300 f34), (a 35, aI (kG κ) 13000 f35), (a 36, aI (kG κ) 606 f36), (a 37, aI (kG κ) 12 f37), (a 38, aI (kG κ) 12 f38), (a 41, aI (kG κ) 64 f41)] 49 [(0, .ref (a 0)), (1, .long c), (3, .int (nI j)), (4, .long q), (6, .int (bC (∀ z, z < j → 33 ≤ byt (uL c) z ∧ byt (uL c) z ≤ 126)))] [.int (bC ((nI 33) ≤ (nI (byt (uL c) j)) ∧ (nI (byt (uL c) j)) ≤ (nI 126)))]
            refine b_if_eq (tg := 56) (nx := 52) C dX9_put_49 rfl rfl (fun h_18 => ?_) (fun h_18 => ?_)
            · have hin : ¬ (33 ≤ byt (uL c) j ∧ byt (uL c) j ≤ 126) := fun z => h_18 ⟨(nI_leI (by omega) (by omega)).mpr z.1, (nI_leI (by omega) (by omega)).mpr z.2⟩
              refine w_iconst (nx := 57) C (nI 0) dX9_put_56 rfl (by decide) ?_
              refine w_top (bC (∀ z, z < j + 1 → 33 ≤ byt (uL c) z ∧ byt (uL c) z ≤ 126)) (bC_0 (fun h9 => hin (h9 j (Nat.lt_succ_self j)))) ?_
              refine w_istore (nx := 59) (lo2 := [(6, .int (bC (∀ z, z < j + 1 → 33 ≤ byt (uL c) z ∧ byt (uL c) z ≤ 126))), (0, .ref (a 0)), (1, .long c), (3, .int (nI j)), (4, .long q)]) C dX9_put_57 rfl (by decide) rfl ?_
              refine w_lload (nx := 61) C 4 dX9_put_59 rfl rfl ?_
              refine w_bipush (nx := 63) C (nI 8) dX9_put_61 rfl (by decide) ?_
              refine w_lushr (nx := 64) C ((q.toUInt64 >>> ((nI 8).toInt64.toUInt64 &&& Int64.toUInt64 63)).toInt64) dX9_put_63 rfl rfl ?_
              refine w_lstore (nx := 66) (lo2 := [(4, .long ((q.toUInt64 >>> ((nI 8).toInt64.toUInt64 &&& Int64.toUInt64 63)).toInt64)), (6, .int (bC (∀ z, z < j + 1 → 33 ≤ byt (uL c) z ∧ byt (uL c) z ≤ 126))), (0, .ref (a 0)), (1, .long c), (3, .int (nI j))]) C dX9_put_64 rfl (by decide) rfl ?_
              refine w_iinc (nx := 69) (lo2 := [(3, .int (nI (j + 1))), (4, .long ((q.toUInt64 >>> ((nI 8).toInt64.toUInt64 &&& Int64.toUInt64 63)).toInt64)), (6, .int (bC (∀ z, z < j + 1 → 33 ≤ byt (uL c) z ∧ byt (uL c) z ≤ 126))), (0, .ref (a 0)), (1, .long c)]) C (nI (j + 1)) 4 dX9_put_66 rfl rfl (nI_add _ _) (by decide) rfl ?_
              refine w_goto (nx := 13) C dX9_put_69 rfl ?_
              refine ww_lo [3, 4, 0, 1, 2] (lo' := [(0, .ref (a 0)), (1, .long c), (3, .int (nI (j + 1))), (4, .long ((q.toUInt64 >>> ((nI 8).toInt64.toUInt64 &&& Int64.toUInt64 63)).toInt64)), (6, .int (bC (∀ z, z < j + 1 → 33 ≤ byt (uL c) z ∧ byt (uL c) z ≤ 126)))]) rfl ?_
              exact ih9_13 (j + 1) ((q.toUInt64 >>> ((nI 8).toInt64.toUInt64 &&& Int64.toUInt64 63)).toInt64) (by omega) (by rw [uL_shr q (s := 8) (by decide), hq, Nat.div_div_eq_div_mul]; rfl) (fun z hz => (Nat.lt_or_ge z j).elim (fun y => hnz z y) (fun y => by have e9 : z = j := (by omega); subst e9; exact hz9)) (by omega)
            · have hin : 33 ≤ byt (uL c) j ∧ byt (uL c) j ≤ 126 := ⟨(nI_leI (by omega) (by omega)).mp h_18.1, (nI_leI (by omega) (by omega)).mp h_18.2⟩
              refine w_iconst (nx := 53) C (nI 1) dX9_put_52 rfl (by decide) ?_
              refine w_goto (nx := 57) C dX9_put_53 rfl ?_
              refine w_top (bC (∀ z, z < j + 1 → 33 ≤ byt (uL c) z ∧ byt (uL c) z ≤ 126)) (bC_1 (fun z hz => (Nat.lt_or_ge z j).elim (fun y => hpv z y) (fun y => by have e9 : z = j := (by omega); subst e9; exact hin))) ?_
              refine w_istore (nx := 59) (lo2 := [(6, .int (bC (∀ z, z < j + 1 → 33 ≤ byt (uL c) z ∧ byt (uL c) z ≤ 126))), (0, .ref (a 0)), (1, .long c), (3, .int (nI j)), (4, .long q)]) C dX9_put_57 rfl (by decide) rfl ?_
              refine w_lload (nx := 61) C 4 dX9_put_59 rfl rfl ?_
              refine w_bipush (nx := 63) C (nI 8) dX9_put_61 rfl (by decide) ?_
              refine w_lushr (nx := 64) C ((q.toUInt64 >>> ((nI 8).toInt64.toUInt64 &&& Int64.toUInt64 63)).toInt64) dX9_put_63 rfl rfl ?_
              refine w_lstore (nx := 66) (lo2 := [(4, .long ((q.toUInt64 >>> ((nI 8).toInt64.toUInt64 &&& Int64.toUInt64 63)).toInt64)), (6, .int (bC (∀ z, z < j + 1 → 33 ≤ byt (uL c) z ∧ byt (uL c) z ≤ 126))), (0, .ref (a 0)), (1, .long c), (3, .int (nI j))]) C dX9_put_64 rfl (by decide) rfl ?_
              refine w_iinc (nx := 69) (lo2 := [(3, .int (nI (j + 1))), (4, .long ((q.toUInt64 >>> ((nI 8).toInt64.toUInt64 &&& Int64.toUInt64 63)).toInt64)), (6, .int (bC (∀ z, z < j + 1 → 33 ≤ byt (uL c) z ∧ byt (uL c) z ≤ 126))), (0, .ref (a 0)), (1, .long c)]) C (nI (j + 1)) 4 dX9_put_66 rfl rfl (nI_add _ _) (by decide) rfl ?_
              refine w_goto (nx := 13) C dX9_put_69 rfl ?_
              refine ww_lo [3, 4, 0, 1, 2] (lo' := [(0, .ref (a 0)), (1, .long c), (3, .int (nI (j + 1))), (4, .long ((q.toUInt64 >>> ((nI 8).toInt64.toUInt64 &&& Int64.toUInt64 63)).toInt64)), (6, .int (bC (∀ z, z < j + 1 → 33 ≤ byt (uL c) z ∧ byt (uL c) z ≤ 126)))]) rfl ?_
              exact ih9_13 (j + 1) ((q.toUInt64 >>> ((nI 8).toInt64.toUInt64 &&& Int64.toUInt64 63)).toInt64) (by omega) (by rw [uL_shr q (s := 8) (by decide), hq, Nat.div_div_eq_div_mul]; rfl) (fun z hz => (Nat.lt_or_ge z j).elim (fun y => hnz z y) (fun y => by have e9 : z = j := (by omega); subst e9; exact hz9)) (by omega)
  refine ww_lo [3, 4, 2, 1, 0] (lo' := [(0, .ref (a 0)), (1, .long c), (3, .int (nI 0)), (4, .long c), (6, .int (bC (∀ z, z < 0 → 33 ≤ byt (uL c) z ∧ byt (uL c) z ≤ 126)))]) rfl ?_
  exact LP_1 _ 0 c (by decide) (by rw [Nat.pow_zero, Nat.div_one]) (fun z hz => absurd hz (Nat.not_lt_zero _)) (Nat.lt_succ_self _)
set_option maxHeartbeats 4000000 in
set_option maxRecDepth 100000 in
theorem c_X9_wipe (l : Launch) (G : GG) (h : Nat) (w : va_W) (X : SX) (hRX : RMX G h w X) : MT l G yX9_wipe cX9_wipe 2 (some .int) 1 0 0 [.ref h] ((w)) (fun v9 ws9 => ∃ (w2 : va_W), v9 = some (.int ((o_wipe X).1)) ∧ ws9 = ((w2)) ∧ RMX G h w2 (o_wipe X).2) := by
  refine RMX_elim hRX (fun a v f1 f2 f3 f5 f6 f7 f17 f21 f22 f23 f24 f25 f26 f27 f28 f29 f31 f32 f33 f34 f35 f36 f37 f38 f41 hw9 hh hO hS hU hUn hSl hPd h18 => ?_)
  subst hw9
  subst hh
  refine MT.of RX9 [(0, .ref (a 0))] (by decide +kernel) rfl rfl (Nat.le_of_ble_eq_true rfl) (fun κ C E hl9 hG9 hnm9 => ?_)
  subst hl9; subst hG9
  have hn12 := hO.1.2.2.2.1.1
  have hj100 := hO.1.2.2.2.2
  have hz6 := hO.2.1.1
  have hp60 := hO.2.2.2.1
  have hd8 := hO.1.1
  have hl1 := hO.1.2.1
  have hzT := hO.1.2.2.1
  refine w_aload_n (nx := 1) C 0 dX9_wipe_0 rfl rfl rfl ?_
  refine w_iconst (nx := 2) C (nI 0) dX9_wipe_1 rfl (by decide) ?_
  refine w_putM (nx := 5) (ws2 := [(a 0, mO a (upd v 0 (nI 0))), (a 1, aI (kG κ) 800 f1), (a 2, aI (kG κ) 800 f2), (a 3, aI (kG κ) 4800 f3), (a 5, aI (kG κ) 1600 f5), (a 6, aZ (kG κ) 2 f6), (a 7, aI (kG κ) 60 f7), (a 17, aI (kG κ) 12 f17), (a 21, aI (kG κ) 12 f21), (a 22, aI (kG κ) 12 f22), (a 23, aI (kG κ) 12 f23), (a 24, aI (kG κ) 12 f24), (a 25, aI (kG κ) 12 f25), (a 26, aI (kG κ) 12 f26), (a 27, aI (kG κ) 12 f27), (a 28, aI (kG κ) 12 f28), (a 29, aZ (kG κ) 4 f29), (a 31, aI (kG κ) 1300 f31), (a 32, aI (kG κ) 1300 f32), (a 33, aI (kG κ) 1300 f33), (a 34, aI (kG κ) 1300 f34), (a 35, aI (kG κ) 13000 f35), (a 36, aI (kG κ) 606 f36), (a 37, aI (kG κ) 12 f37), (a 38, aI (kG κ) 12 f38), (a 41, aI (kG κ) 64 f41)]) C 0 0 dX9_wipe_2 rfl wl_X9_90 rfl (by decide) rfl rfl rfl (ms_0 _ _ _) rfl ?_
  refine w_aload_n (nx := 6) C 0 dX9_wipe_5 rfl rfl rfl ?_
  refine w_getM (nx := 9) C (.int (v 8)) 0 8 dX9_wipe_6 rfl wl_X9_231 rfl (by decide) rfl (mg_8 _ _) ?_
  refine w_top (nI ((xP X).1)) hPd.1 ?_
  refine w_istore_n (nx := 10) (lo2 := [(1, .int (nI ((xP X).1))), (0, .ref (a 0))]) C dX9_wipe_9 rfl rfl (by decide) rfl ?_
  refine w_aload_n (nx := 11) C 1 dX9_wipe_10 rfl rfl rfl ?_
  refine w_iconst (nx := 12) C (nI 0) dX9_wipe_11 rfl (by decide) ?_
  refine w_putM (nx := 15) (ws2 := [(a 0, mO a (upd (upd v 0 (nI 0)) 8 (nI 0))), (a 1, aI (kG κ) 800 f1), (a 2, aI (kG κ) 800 f2), (a 3, aI (kG κ) 4800 f3), (a 5, aI (kG κ) 1600 f5), (a 6, aZ (kG κ) 2 f6), (a 7, aI (kG κ) 60 f7), (a 17, aI (kG κ) 12 f17), (a 21, aI (kG κ) 12 f21), (a 22, aI (kG κ) 12 f22), (a 23, aI (kG κ) 12 f23), (a 24, aI (kG κ) 12 f24), (a 25, aI (kG κ) 12 f25), (a 26, aI (kG κ) 12 f26), (a 27, aI (kG κ) 12 f27), (a 28, aI (kG κ) 12 f28), (a 29, aZ (kG κ) 4 f29), (a 31, aI (kG κ) 1300 f31), (a 32, aI (kG κ) 1300 f32), (a 33, aI (kG κ) 1300 f33), (a 34, aI (kG κ) 1300 f34), (a 35, aI (kG κ) 13000 f35), (a 36, aI (kG κ) 606 f36), (a 37, aI (kG κ) 12 f37), (a 38, aI (kG κ) 12 f38), (a 41, aI (kG κ) 64 f41)]) C 0 8 dX9_wipe_12 rfl wl_X9_231 rfl (by decide) rfl rfl rfl (ms_8 _ _ _) rfl ?_
  refine w_iload_n (nx := 16) C 0 dX9_wipe_15 rfl rfl rfl ?_
  have ho9 : o_wipe X = ((nI ((xP X).1)), (xS X, xH X, xL X, (0, (xP X).2))) := rfl
  have hw9 : wfO (xS X, xH X, xL X, (0, (xP X).2)) := by
    have z9 : wfO (o_wipe X).2 := w_o_wipe hO
    rw [ho9] at z9
    exact z9
  refine w_iret (ty := .int) C E dX9_wipe_16 rfl rfl (Nat.le_refl _) (Nat.le_refl _) ?_
  rw [ho9]
  exact ⟨_, rfl, rfl, _, _, _, _, _, _, _, _, _, _, _, _, _, _, _, _, _, _, _, _, _, _, _, _, _, _, _, rfl, rfl, hw9, hS, hU, hUn, hSl, (⟨rfl, fun i hi => absurd hi (Nat.not_lt_zero _)⟩), h18⟩
