section LAWR
variable {κ : KX} {cc : ByteArray} {own : String} {nL : Nat} {Rm : Room} {c n pc nx : Nat} {ws : va_W} {lo : List (Nat × Value)} {rest : List Value}
theorem w_sld (C : CT κ cc own nL Rm) {b L : Nat} {xs : Nat → Int32} (hX : va_X b L xs (ks κ) (ks κ).heap) (hbl : b < (ks κ).heap.size) (hbA : ¬ kA κ b) (i : Nat) {x : Int32} (hd : decode cc pc = .ok (.iaload, 1)) (hn : pc + 1 = nx) (hx : x = nI i) (hi : i < L) (hL : L < 2 ^ 31) (kk : WW κ c n ws nx lo (.int (xs i) :: rest)) : WW κ c n ws pc lo (.int x :: .ref b :: rest) := by
  subst hn; subst hx
  intro H locs ls hP hD hS hl
  refine va_sld C.1 C.2.1 hX hbl hbA hS (nI_in hi hL) hd ?_
  rw [nI_clamp (by omega)]
  exact kk H locs ls hP hD hS hl
theorem w_slen (C : CT κ cc own nL Rm) {b L : Nat} {xs : Nat → Int32} (hX : va_X b L xs (ks κ) (ks κ).heap) (hbl : b < (ks κ).heap.size) (hbA : ¬ kA κ b) (hd : decode cc pc = .ok (.arraylength, 1)) (hn : pc + 1 = nx) (kk : WW κ c n ws nx lo (.int (nI L) :: rest)) : WW κ c n ws pc lo (.ref b :: rest) := by
  subst hn
  intro H locs ls hP hD hS hl
  exact va_slen C.1 C.2.1 hX hbl hbA hS hd (kk H locs ls hP hD hS hl)
end LAWR
set_option maxHeartbeats 4000000 in
set_option maxRecDepth 100000 in
theorem c_L_low (l : Launch) (G : GG) (x : Int32) (m : Nat) (hm : 0 < m) (hm2 : m < 2 ^ 31) : MT l G yL_low cL_low 2 (some .int) 1 0 0 [.int x, .int (nI m)] [] (fun v9 ws9 => v9 = some (.int (nI (lwN x m))) ∧ ws9 = []) := by
  refine MT.of RL [(0, .int x), (1, .int (nI m))] (by decide +kernel) rfl rfl (Nat.le_of_ble_eq_true rfl) (fun κ C E hl9 hG9 hnm9 => ?_)
  subst hl9; subst hG9
  have hu9 := u31_lt x
  refine w_iload_n (nx := 1) C 0 dL_low_0 rfl rfl rfl ?_
  refine w_ldc (nx := 3) C 2147483647 dL_low_1 rfl wk_L_7 ?_
  refine w_iand (nx := 4) C (nI (u31 x)) dL_low_3 rfl (u31_and x) ?_
  refine w_iload_n (nx := 5) C 1 dL_low_4 rfl rfl rfl ?_
  refine w_irem (nx := 6) C (nI ((u31 x) % m)) dL_low_5 rfl (nI_nz (by omega) (by omega)) (pk_rem (by omega) (by omega) (by omega)) ?_
  exact w_iret (ty := .int) C E dL_low_6 rfl rfl (Nat.le_refl _) (Nat.le_refl _) ⟨rfl, rfl⟩
set_option maxHeartbeats 4000000 in
set_option maxRecDepth 100000 in
theorem c_L_cell {b L : Nat} {xs : Nat → Int32} (hL : L ≤ 260) (l : Launch) (G : GG) (k : Nat) (hk : k < 1000) : MTS b L xs l G yL_cell cL_cell 2 (some .int) 1 [.ref b, .int (nI k)] (fun v9 ws9 => (∃ x : Int32, v9 = some (.int x)) ∧ ws9 = []) := by
  refine MTS.of RL [(0, .ref b), (1, .int (nI k))] (by decide +kernel) rfl rfl (Nat.le_of_ble_eq_true rfl) (fun κ C E hl9 hG9 hX hbl hbA => ?_)
  refine w_iload_n (nx := 1) C 1 dL_cell_0 rfl rfl rfl ?_
  refine w_aload_n (nx := 2) C 0 dL_cell_1 rfl rfl rfl ?_
  refine w_slen (nx := 3) C hX hbl hbA dL_cell_2 rfl ?_
  refine n_icmp_ge (tg := 12) (nx := 6) C dL_cell_3 rfl rfl (by omega) (by omega) (fun h_1 => ?_) (fun h_1 => ?_)
  · refine w_sipush (nx := 15) C (nI 7919) dL_cell_12 rfl (by decide) ?_
    refine w_iload_n (nx := 16) C 1 dL_cell_15 rfl rfl rfl ?_
    refine w_iconst (nx := 17) C (nI 3) dL_cell_16 rfl (by decide) ?_
    refine w_iadd (nx := 18) C (nI (k + 3)) dL_cell_17 rfl (nI_add _ _) ?_
    refine w_imul (nx := 19) C (nI (7919 * (k + 3))) dL_cell_18 rfl (pk_mul _ _) ?_
    refine w_iload_n (nx := 20) C 1 dL_cell_19 rfl rfl rfl ?_
    refine w_bipush (nx := 22) C (nI 11) dL_cell_20 rfl (by decide) ?_
    refine w_iadd (nx := 23) C (nI (k + 11)) dL_cell_22 rfl (nI_add _ _) ?_
    refine w_imul (nx := 24) C (nI ((7919 * (k + 3)) * (k + 11))) dL_cell_23 rfl (pk_mul _ _) ?_
    exact w_iret (ty := .int) C E dL_cell_24 rfl rfl (Nat.le_refl _) (Nat.le_refl _) ⟨⟨_, rfl⟩, rfl⟩
  · refine w_aload_n (nx := 7) C 0 dL_cell_6 rfl rfl rfl ?_
    refine w_iload_n (nx := 8) C 1 dL_cell_7 rfl rfl rfl ?_
    refine w_sld (nx := 9) C hX hbl hbA k dL_cell_8 rfl rfl (by omega) (by omega) ?_
    refine w_goto (nx := 24) C dL_cell_9 rfl ?_
    exact w_iret (ty := .int) C E dL_cell_24 rfl rfl (Nat.le_refl _) (Nat.le_refl _) ⟨⟨_, rfl⟩, rfl⟩
