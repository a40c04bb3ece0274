theorem idx_lt {i c L w : Nat} (hi : i < L) (hc : c < w) : i * w + c < L * w := by
  have h1 : (i + 1) * w ≤ L * w := Nat.mul_le_mul_right w hi
  rw [Nat.succ_mul] at h1
  omega
set_option maxHeartbeats 4000000 in
set_option maxRecDepth 100000 in
theorem c_X4_size (l : Launch) (G : GG) (h : Nat) (b : Nat) (L : Nat) (w : Nat) (z : Nat) (m : Nat) (f : Nat → Int32)  : MT l G yX4_size cX4_size 1 (some .int) 1 0 0 [.ref h] [(h, .inr (4, [.int (nI L), .int (nI w), .ref b, .int (nI z)])), (b, aI G m f)] (fun v9 ws9 => v9 = some (.int (nI z)) ∧ ws9 = [(h, .inr (4, [.int (nI L), .int (nI w), .ref b, .int (nI z)])), (b, aI G m f)]) := by
  refine MT.of RX4 [(0, .ref h)] (by decide +kernel) rfl rfl (Nat.le_of_ble_eq_true rfl) (fun κ C E hl9 hG9 hnm9 => ?_)
  subst hl9; subst hG9
  refine w_aload_n (nx := 1) C 0 dX4_size_0 rfl rfl rfl ?_
  refine w_get (nx := 4) C fc4 (.int (nI z)) 0 3 dX4_size_1 rfl wl_X4_9 rfl (by decide) rfl rfl ?_
  exact w_iret (ty := .int) C E dX4_size_4 rfl rfl (Nat.le_refl _) (Nat.le_refl _) ⟨rfl, rfl⟩
set_option maxHeartbeats 4000000 in
set_option maxRecDepth 100000 in
theorem c_X4_clear (l : Launch) (G : GG) (h : Nat) (b : Nat) (L : Nat) (w : Nat) (x : Int32) (m : Nat) (f : Nat → Int32)  : MT l G yX4_clear cX4_clear 1 none 1 0 0 [.ref h] [(h, .inr (4, [.int (nI L), .int (nI w), .ref b, .int x])), (b, aI G m f)] (fun v9 ws9 => v9 = none ∧ ws9 = [(h, .inr (4, [.int (nI L), .int (nI w), .ref b, .int (nI 0)])), (b, aI G m f)]) := by
  refine MT.of RX4 [(0, .ref h)] (by decide +kernel) rfl rfl (Nat.le_of_ble_eq_true rfl) (fun κ C E hl9 hG9 hnm9 => ?_)
  subst hl9; subst hG9
  refine w_aload_n (nx := 1) C 0 dX4_clear_0 rfl rfl rfl ?_
  refine w_iconst (nx := 2) C (nI 0) dX4_clear_1 rfl (by decide) ?_
  refine w_put (nx := 5) (ws2 := [(h, .inr (4, [.int (nI L), .int (nI w), .ref b, .int (nI 0)])), (b, aI (kG κ) m f)]) C fc4 0 3 dX4_clear_2 rfl wl_X4_9 rfl (by decide) rfl rfl rfl (Nat.le_of_ble_eq_true rfl) rfl ?_
  exact w_vret C E dX4_clear_5 rfl (Nat.le_refl _) (Nat.le_refl _) ⟨rfl, rfl⟩
set_option maxHeartbeats 4000000 in
set_option maxRecDepth 100000 in
theorem c_X4_get_n (l : Launch) (G : GG) (h : Nat) (b : Nat) (L : Nat) (w : Nat) (z : Nat) (m : Nat) (f : Nat → Int32) (i : Nat) (c : Nat) (v : Nat) (hm : m = L * w) (hm2 : m < 100000) (hz : z ≤ L) (hL : L < 100000) (hw : w < 100000) (hi : i < z) (hc : c < w) (hv : f (i * w + c) = nI v) : MT l G yX4_get cX4_get 4 (some .int) 1 0 0 [.ref h, .int (nI i), .int (nI c)] [(h, .inr (4, [.int (nI L), .int (nI w), .ref b, .int (nI z)])), (b, aI G m f)] (fun v9 ws9 => v9 = some (.int (nI v)) ∧ ws9 = [(h, .inr (4, [.int (nI L), .int (nI w), .ref b, .int (nI z)])), (b, aI G m f)]) := by
  refine MT.of RX4 [(0, .ref h), (1, .int (nI i)), (2, .int (nI c))] (by decide +kernel) rfl rfl (Nat.le_of_ble_eq_true rfl) (fun κ C E hl9 hG9 hnm9 => ?_)
  subst hl9; subst hG9
  have hix : i * w + c < m := hm ▸ idx_lt (Nat.lt_of_lt_of_le hi hz) hc
  refine w_iload_n (nx := 1) C 1 dX4_get_0 rfl rfl rfl ?_
  refine n_if_lt (tg := 28) (nx := 4) C dX4_get_1 rfl rfl (by omega) ?_
  refine w_iload_n (nx := 5) C 1 dX4_get_4 rfl rfl rfl ?_
  refine w_aload_n (nx := 6) C 0 dX4_get_5 rfl rfl rfl ?_
  refine w_get (nx := 9) C fc4 (.int (nI z)) 0 3 dX4_get_6 rfl wl_X4_9 rfl (by decide) rfl rfl ?_
  refine n_icmp_ge (tg := 28) (nx := 12) C dX4_get_9 rfl rfl (by omega) (by omega) (fun h_2 => ?_) (fun h_2 => ?_)
  · exact absurd hi (by omega)
  · refine w_iload_n (nx := 13) C 2 dX4_get_12 rfl rfl rfl ?_
    refine n_if_lt (tg := 28) (nx := 16) C dX4_get_13 rfl rfl (by omega) ?_
    refine w_iload_n (nx := 17) C 2 dX4_get_16 rfl rfl rfl ?_
    refine w_aload_n (nx := 18) C 0 dX4_get_17 rfl rfl rfl ?_
    refine w_get (nx := 21) C fc4 (.int (nI w)) 0 1 dX4_get_18 rfl wl_X4_24 rfl (by decide) rfl rfl ?_
    refine n_icmp_ge (tg := 28) (nx := 24) C dX4_get_21 rfl rfl (by omega) (by omega) (fun h_4 => ?_) (fun h_4 => ?_)
    · exact absurd hc (by omega)
    · refine w_iconst (nx := 25) C (nI 1) dX4_get_24 rfl (by decide) ?_
      refine w_goto (nx := 29) C dX4_get_25 rfl ?_
      refine w_istore_n (nx := 30) (lo2 := [(3, .int (nI 1)), (0, .ref h), (1, .int (nI i)), (2, .int (nI c))]) C dX4_get_29 rfl rfl (by decide) rfl ?_
      refine w_iload_n (nx := 31) C 0 dX4_get_30 rfl rfl rfl ?_
      refine w_if_eq (tg := 50) (nx := 34) C dX4_get_31 rfl rfl (fun q9 => absurd q9 (by decide)) (fun _ => ?_)
      refine w_aload_n (nx := 35) C 1 dX4_get_34 rfl rfl rfl ?_
      refine w_get (nx := 38) C fc4 (.ref b) 0 2 dX4_get_35 rfl wl_X4_27 rfl (by decide) rfl rfl ?_
      refine w_iload_n (nx := 39) C 2 dX4_get_38 rfl rfl rfl ?_
      refine w_aload_n (nx := 40) C 1 dX4_get_39 rfl rfl rfl ?_
      refine w_get (nx := 43) C fc4 (.int (nI w)) 0 1 dX4_get_40 rfl wl_X4_24 rfl (by decide) rfl rfl ?_
      refine w_imul (nx := 44) C (nI (i * w)) dX4_get_43 rfl (pk_mul _ _) ?_
      refine w_iload_n (nx := 45) C 3 dX4_get_44 rfl rfl rfl ?_
      refine w_iadd (nx := 46) C (nI (i * w + c)) dX4_get_45 rfl (nI_add _ _) ?_
      refine w_iald (nx := 47) C (nI v) 1 (i * w + c) dX4_get_46 rfl rfl (by omega) rfl (by omega) hv ?_
      refine w_goto (nx := 51) C dX4_get_47 rfl ?_
      exact w_iret (ty := .int) C E dX4_get_51 rfl rfl (Nat.le_refl _) (Nat.le_refl _) ⟨rfl, rfl⟩
set_option maxHeartbeats 4000000 in
set_option maxRecDepth 100000 in
theorem c_X4_get (l : Launch) (G : GG) (h : Nat) (b : Nat) (L : Nat) (w : Nat) (z : Nat) (m : Nat) (f : Nat → Int32) (i : Nat) (c : Nat) (v : Int32) (hm : m = L * w) (hm2 : m < 100000) (hz : z ≤ L) (hL : L < 100000) (hw : w < 100000) (hi : i < z) (hc : c < w) (hv : f (i * w + c) = v) : MT l G yX4_get cX4_get 4 (some .int) 1 0 0 [.ref h, .int (nI i), .int (nI c)] [(h, .inr (4, [.int (nI L), .int (nI w), .ref b, .int (nI z)])), (b, aI G m f)] (fun v9 ws9 => v9 = some (.int v) ∧ ws9 = [(h, .inr (4, [.int (nI L), .int (nI w), .ref b, .int (nI z)])), (b, aI G m f)]) := by
  refine MT.of RX4 [(0, .ref h), (1, .int (nI i)), (2, .int (nI c))] (by decide +kernel) rfl rfl (Nat.le_of_ble_eq_true rfl) (fun κ C E hl9 hG9 hnm9 => ?_)
  subst hl9; subst hG9
  have hix : i * w + c < m := hm ▸ idx_lt (Nat.lt_of_lt_of_le hi hz) hc
  refine w_iload_n (nx := 1) C 1 dX4_get_0 rfl rfl rfl ?_
  refine n_if_lt (tg := 28) (nx := 4) C dX4_get_1 rfl rfl (by omega) ?_
  refine w_iload_n (nx := 5) C 1 dX4_get_4 rfl rfl rfl ?_
  refine w_aload_n (nx := 6) C 0 dX4_get_5 rfl rfl rfl ?_
  refine w_get (nx := 9) C fc4 (.int (nI z)) 0 3 dX4_get_6 rfl wl_X4_9 rfl (by decide) rfl rfl ?_
  refine n_icmp_ge (tg := 28) (nx := 12) C dX4_get_9 rfl rfl (by omega) (by omega) (fun h_2 => ?_) (fun h_2 => ?_)
  · exact absurd hi (by omega)
  · refine w_iload_n (nx := 13) C 2 dX4_get_12 rfl rfl rfl ?_
    refine n_if_lt (tg := 28) (nx := 16) C dX4_get_13 rfl rfl (by omega) ?_
    refine w_iload_n (nx := 17) C 2 dX4_get_16 rfl rfl rfl ?_
    refine w_aload_n (nx := 18) C 0 dX4_get_17 rfl rfl rfl ?_
    refine w_get (nx := 21) C fc4 (.int (nI w)) 0 1 dX4_get_18 rfl wl_X4_24 rfl (by decide) rfl rfl ?_
    refine n_icmp_ge (tg := 28) (nx := 24) C dX4_get_21 rfl rfl (by omega) (by omega) (fun h_4 => ?_) (fun h_4 => ?_)
    · exact absurd hc (by omega)
    · refine w_iconst (nx := 25) C (nI 1) dX4_get_24 rfl (by decide) ?_
      refine w_goto (nx := 29) C dX4_get_25 rfl ?_
      refine w_istore_n (nx := 30) (lo2 := [(3, .int (nI 1)), (0, .ref h), (1, .int (nI i)), (2, .int (nI c))]) C dX4_get_29 rfl rfl (by decide) rfl ?_
      refine w_iload_n (nx := 31) C 0 dX4_get_30 rfl rfl rfl ?_
      refine w_if_eq (tg := 50) (nx := 34) C dX4_get_31 rfl rfl (fun q9 => absurd q9 (by decide)) (fun _ => ?_)
      refine w_aload_n (nx := 35) C 1 dX4_get_34 rfl rfl rfl ?_
      refine w_get (nx := 38) C fc4 (.ref b) 0 2 dX4_get_35 rfl wl_X4_27 rfl (by decide) rfl rfl ?_
      refine w_iload_n (nx := 39) C 2 dX4_get_38 rfl rfl rfl ?_
      refine w_aload_n (nx := 40) C 1 dX4_get_39 rfl rfl rfl ?_
      refine w_get (nx := 43) C fc4 (.int (nI w)) 0 1 dX4_get_40 rfl wl_X4_24 rfl (by decide) rfl rfl ?_
      refine w_imul (nx := 44) C (nI (i * w)) dX4_get_43 rfl (pk_mul _ _) ?_
      refine w_iload_n (nx := 45) C 3 dX4_get_44 rfl rfl rfl ?_
      refine w_iadd (nx := 46) C (nI (i * w + c)) dX4_get_45 rfl (nI_add _ _) ?_
      refine w_iald (nx := 47) C v 1 (i * w + c) dX4_get_46 rfl rfl (by omega) rfl (by omega) hv ?_
      refine w_goto (nx := 51) C dX4_get_47 rfl ?_
      exact w_iret (ty := .int) C E dX4_get_51 rfl rfl (Nat.le_refl _) (Nat.le_refl _) ⟨rfl, rfl⟩
set_option maxHeartbeats 4000000 in
set_option maxRecDepth 100000 in
theorem c_X4_change (l : Launch) (G : GG) (h : Nat) (b : Nat) (L : Nat) (w : Nat) (z : Nat) (m : Nat) (f : Nat → Int32) (i : Nat) (c : Nat) (x : Int32) (hm : m = L * w) (hm2 : m < 100000) (hz : z ≤ L) (hL : L < 100000) (hw : w < 100000) (hi : i < z) (hc : c < w) : MT l G yX4_change cX4_change 4 none 1 0 0 [.ref h, .int (nI i), .int (nI c), .int x] [(h, .inr (4, [.int (nI L), .int (nI w), .ref b, .int (nI z)])), (b, aI G m f)] (fun v9 ws9 => v9 = none ∧ ws9 = [(h, .inr (4, [.int (nI L), .int (nI w), .ref b, .int (nI z)])), (b, aI G m (upd f (i * w + c) x))]) := by
  refine MT.of RX4 [(0, .ref h), (1, .int (nI i)), (2, .int (nI c)), (3, .int x)] (by decide +kernel) rfl rfl (Nat.le_of_ble_eq_true rfl) (fun κ C E hl9 hG9 hnm9 => ?_)
  subst hl9; subst hG9
  have hix : i * w + c < m := hm ▸ idx_lt (Nat.lt_of_lt_of_le hi hz) hc
  refine w_iload_n (nx := 1) C 1 dX4_change_0 rfl rfl rfl ?_
  refine n_if_lt (tg := 38) (nx := 4) C dX4_change_1 rfl rfl (by omega) ?_
  refine w_iload_n (nx := 5) C 1 dX4_change_4 rfl rfl rfl ?_
  refine w_aload_n (nx := 6) C 0 dX4_change_5 rfl rfl rfl ?_
  refine w_get (nx := 9) C fc4 (.int (nI z)) 0 3 dX4_change_6 rfl wl_X4_9 rfl (by decide) rfl rfl ?_
  refine n_icmp_ge (tg := 38) (nx := 12) C dX4_change_9 rfl rfl (by omega) (by omega) (fun h_2 => ?_) (fun h_2 => ?_)
  · exact absurd hi (by omega)
  · refine w_iload_n (nx := 13) C 2 dX4_change_12 rfl rfl rfl ?_
    refine n_if_lt (tg := 38) (nx := 16) C dX4_change_13 rfl rfl (by omega) ?_
    refine w_iload_n (nx := 17) C 2 dX4_change_16 rfl rfl rfl ?_
    refine w_aload_n (nx := 18) C 0 dX4_change_17 rfl rfl rfl ?_
    refine w_get (nx := 21) C fc4 (.int (nI w)) 0 1 dX4_change_18 rfl wl_X4_24 rfl (by decide) rfl rfl ?_
    refine n_icmp_ge (tg := 38) (nx := 24) C dX4_change_21 rfl rfl (by omega) (by omega) (fun h_4 => ?_) (fun h_4 => ?_)
    · exact absurd hc (by omega)
    · refine w_aload_n (nx := 25) C 0 dX4_change_24 rfl rfl rfl ?_
      refine w_get (nx := 28) C fc4 (.ref b) 0 2 dX4_change_25 rfl wl_X4_27 rfl (by decide) rfl rfl ?_
      refine w_iload_n (nx := 29) C 1 dX4_change_28 rfl rfl rfl ?_
      refine w_aload_n (nx := 30) C 0 dX4_change_29 rfl rfl rfl ?_
      refine w_get (nx := 33) C fc4 (.int (nI w)) 0 1 dX4_change_30 rfl wl_X4_24 rfl (by decide) rfl rfl ?_
      refine w_imul (nx := 34) C (nI (i * w)) dX4_change_33 rfl (pk_mul _ _) ?_
      refine w_iload_n (nx := 35) C 2 dX4_change_34 rfl rfl rfl ?_
      refine w_iadd (nx := 36) C (nI (i * w + c)) dX4_change_35 rfl (nI_add _ _) ?_
      refine w_iload_n (nx := 37) C 3 dX4_change_36 rfl rfl rfl ?_
      refine w_iast (nx := 38) (ws2 := [(h, .inr (4, [.int (nI L), .int (nI w), .ref b, .int (nI z)])), (b, aI (kG κ) m (upd f (i * w + c) x))]) C 1 (i * w + c) dX4_change_37 rfl rfl (by omega) rfl (by omega) rfl ?_
      exact w_vret C E dX4_change_38 rfl (Nat.le_refl _) (Nat.le_refl _) ⟨rfl, rfl⟩
set_option maxHeartbeats 4000000 in
set_option maxRecDepth 100000 in
theorem c_X4_append (l : Launch) (G : GG) (h : Nat) (b : Nat) (L : Nat) (w : Nat) (z : Nat) (m : Nat) (f : Nat → Int32) (hm : m = L * w) (hm2 : m < 100000) (hz : z ≤ L) (hL : L < 100000) (hzl : z < L) : MT l G yX4_append cX4_append 1 (some .int) 1 0 0 [.ref h] [(h, .inr (4, [.int (nI L), .int (nI w), .ref b, .int (nI z)])), (b, aI G m f)] (fun v9 ws9 => v9 = some (.int (nI z)) ∧ ws9 = [(h, .inr (4, [.int (nI L), .int (nI w), .ref b, .int (nI (z + 1))])), (b, aI G m f)]) := by
  refine MT.of RX4 [(0, .ref h)] (by decide +kernel) rfl rfl (Nat.le_of_ble_eq_true rfl) (fun κ C E hl9 hG9 hnm9 => ?_)
  subst hl9; subst hG9
  refine w_aload_n (nx := 1) C 0 dX4_append_0 rfl rfl rfl ?_
  refine w_get (nx := 4) C fc4 (.int (nI z)) 0 3 dX4_append_1 rfl wl_X4_9 rfl (by decide) rfl rfl ?_
  refine w_aload_n (nx := 5) C 0 dX4_append_4 rfl rfl rfl ?_
  refine w_get (nx := 8) C fc4 (.int (nI L)) 0 0 dX4_append_5 rfl wl_X4_21 rfl (by decide) rfl rfl ?_
  refine n_icmp_lt (tg := 13) (nx := 11) C dX4_append_8 rfl rfl (by omega) (by omega) (fun h_1 => ?_) (fun h_1 => ?_)
  · refine w_aload_n (nx := 14) C 0 dX4_append_13 rfl rfl rfl ?_
    refine w_dup (nx := 15) C dX4_append_14 rfl rfl ?_
    refine w_get (nx := 18) C fc4 (.int (nI z)) 0 3 dX4_append_15 rfl wl_X4_9 rfl (by decide) rfl rfl ?_
    refine w_iconst (nx := 19) C (nI 1) dX4_append_18 rfl (by decide) ?_
    refine w_iadd (nx := 20) C (nI (z + 1)) dX4_append_19 rfl (nI_add _ _) ?_
    refine w_put (nx := 23) (ws2 := [(h, .inr (4, [.int (nI L), .int (nI w), .ref b, .int (nI (z + 1))])), (b, aI (kG κ) m f)]) C fc4 0 3 dX4_append_20 rfl wl_X4_9 rfl (by decide) rfl rfl rfl (Nat.le_of_ble_eq_true rfl) rfl ?_
    refine w_aload_n (nx := 24) C 0 dX4_append_23 rfl rfl rfl ?_
    refine w_get (nx := 27) C fc4 (.int (nI (z + 1))) 0 3 dX4_append_24 rfl wl_X4_9 rfl (by decide) rfl rfl ?_
    refine w_iconst (nx := 28) C (nI 1) dX4_append_27 rfl (by decide) ?_
    refine w_isub (nx := 29) C (nI (z + 1 - 1)) dX4_append_28 rfl (pk_sub (by omega)) ?_
    exact w_iret (ty := .int) C E dX4_append_29 rfl rfl (Nat.le_refl _) (Nat.le_refl _) ⟨rfl, rfl⟩
  · exact absurd hzl h_1
set_option maxHeartbeats 4000000 in
set_option maxRecDepth 100000 in
theorem c_X4_append_w (l : Launch) (G : GG) (h : Nat) (b : Nat) (m : Nat) (f : Nat → Int32)  : MT l G yX4_append cX4_append 1 (some .int) 1 0 0 [.ref h] [(h, .inr (4, [.int (nI 100), .int (nI 2), .ref b, .int (nI (min m 100))])), (b, aI G 200 f)] (fun v9 ws9 => (v9 = some (.int (nI m)) ∧ ws9 = [(h, .inr (4, [.int (nI 100), .int (nI 2), .ref b, .int (nI (min (m + 1) 100))])), (b, aI G 200 f)] ∧ m < 100) ∨ (v9 = some (.int (-1)) ∧ ws9 = [(h, .inr (4, [.int (nI 100), .int (nI 2), .ref b, .int (nI (min (m + 1) 100))])), (b, aI G 200 f)] ∧ ¬ m < 100)) := by
  refine MT.of RX4 [(0, .ref h)] (by decide +kernel) rfl rfl (Nat.le_of_ble_eq_true rfl) (fun κ C E hl9 hG9 hnm9 => ?_)
  subst hl9; subst hG9
  refine w_aload_n (nx := 1) C 0 dX4_append_0 rfl rfl rfl ?_
  refine w_get (nx := 4) C fc4 (.int (nI (min m 100))) 0 3 dX4_append_1 rfl wl_X4_9 rfl (by decide) rfl rfl ?_
  refine w_aload_n (nx := 5) C 0 dX4_append_4 rfl rfl rfl ?_
  refine w_get (nx := 8) C fc4 (.int (nI 100)) 0 0 dX4_append_5 rfl wl_X4_21 rfl (by decide) rfl rfl ?_
  refine n_icmp_lt (tg := 13) (nx := 11) C dX4_append_8 rfl rfl (by omega) (by omega) (fun h_1 => ?_) (fun h_1 => ?_)
  · have hz9 : m < 100 := by omega
    have hs9 : min m 100 + 1 = min (m + 1) 100 := by omega
    refine w_aload_n (nx := 14) C 0 dX4_append_13 rfl rfl rfl ?_
    refine w_dup (nx := 15) C dX4_append_14 rfl rfl ?_
    refine w_get (nx := 18) C fc4 (.int (nI (min m 100))) 0 3 dX4_append_15 rfl wl_X4_9 rfl (by decide) rfl rfl ?_
    refine w_iconst (nx := 19) C (nI 1) dX4_append_18 rfl (by decide) ?_
    refine w_iadd (nx := 20) C (nI (min (m + 1) 100)) dX4_append_19 rfl ((nI_add _ _).trans (congrArg nI hs9)) ?_
    refine w_put (nx := 23) (ws2 := [(h, .inr (4, [.int (nI 100), .int (nI 2), .ref b, .int (nI (min (m + 1) 100))])), (b, aI (kG κ) 200 f)]) C fc4 0 3 dX4_append_20 rfl wl_X4_9 rfl (by decide) rfl rfl rfl (Nat.le_of_ble_eq_true rfl) rfl ?_
    refine w_aload_n (nx := 24) C 0 dX4_append_23 rfl rfl rfl ?_
    refine w_get (nx := 27) C fc4 (.int (nI (min (m + 1) 100))) 0 3 dX4_append_24 rfl wl_X4_9 rfl (by decide) rfl rfl ?_
    refine w_iconst (nx := 28) C (nI 1) dX4_append_27 rfl (by decide) ?_
    refine w_isub (nx := 29) C (nI m) dX4_append_28 rfl ((pk_sub (by omega)).trans (congrArg nI (by omega))) ?_
    exact w_iret (ty := .int) C E dX4_append_29 rfl rfl (Nat.le_refl _) (Nat.le_refl _) (Or.inl ⟨rfl, rfl, (hz9)⟩)
  · have hz9 : ¬ m < 100 := by omega
    rw [show min m 100 = min (m + 1) 100 by omega]
    show WW κ 0 0 [(h, .inr (4, [.int (nI 100), .int (nI 2), .ref b, .int (nI (min (m + 1) 100))])), (b, aI (kG κ) 200 f)] 11 [(0, .ref h)] []
    refine w_iconst (nx := 12) C (-1) dX4_append_11 rfl (by decide) ?_
    exact w_iret (ty := .int) C E dX4_append_12 rfl rfl (Nat.le_refl _) (Nat.le_refl _) (Or.inr (⟨rfl, rfl, (hz9)⟩))
set_option maxHeartbeats 4000000 in
set_option maxRecDepth 100000 in
theorem c_X4_change_no (l : Launch) (G : GG) (h : Nat) (b : Nat) (L : Nat) (w : Nat) (z : Nat) (m : Nat) (f : Nat → Int32) (c : Nat) (x : Int32)  : MT l G yX4_change cX4_change 4 none 1 0 0 [.ref h, .int (-1), .int (nI c), .int x] [(h, .inr (4, [.int (nI L), .int (nI w), .ref b, .int (nI z)])), (b, aI G m f)] (fun v9 ws9 => v9 = none ∧ ws9 = [(h, .inr (4, [.int (nI L), .int (nI w), .ref b, .int (nI z)])), (b, aI G m f)]) := by
  refine MT.of RX4 [(0, .ref h), (1, .int (-1)), (2, .int (nI c)), (3, .int x)] (by decide +kernel) rfl rfl (Nat.le_of_ble_eq_true rfl) (fun κ C E hl9 hG9 hnm9 => ?_)
  subst hl9; subst hG9
  refine w_iload_n (nx := 1) C 1 dX4_change_0 rfl rfl rfl ?_
  refine w_if_lt (tg := 38) (nx := 4) C dX4_change_1 rfl rfl (fun h_1 => ?_) (fun h_1 => ?_)
  · exact w_vret C E dX4_change_38 rfl (Nat.le_refl _) (Nat.le_refl _) ⟨rfl, rfl⟩
  · exact absurd (by decide : (-1 : Int32) < 0) h_1
set_option maxHeartbeats 4000000 in
set_option maxRecDepth 100000 in
theorem c_X4_remove (l : Launch) (G : GG) (h : Nat) (b : Nat) (z : Nat) (f : Nat → Int32) (i : Nat) (hi : i < z) (hz : z ≤ 12) : MT l G yX4_remove cX4_remove 3 none 1 0 0 [.ref h, .int (nI i)] [(h, .inr (4, [.int (nI 12), .int (nI 8), .ref b, .int (nI z)])), (b, aI G 96 f)] (fun v9 ws9 => ∃ (f2 : Nat → Int32), v9 = none ∧ ws9 = [(h, .inr (4, [.int (nI 12), .int (nI 8), .ref b, .int (nI (z - 1))])), (b, aI G 96 f2)] ∧ (∀ j, j < i * 8 → f2 j = f j) ∧ (∀ j, i * 8 ≤ j → j < (z - 1) * 8 → f2 j = f (j + 8))) := by
  refine MT.of RX4 [(0, .ref h), (1, .int (nI i))] (by decide +kernel) rfl rfl (Nat.le_of_ble_eq_true rfl) (fun κ C E hl9 hG9 hnm9 => ?_)
  subst hl9; subst hG9
  refine w_iload_n (nx := 1) C 1 dX4_remove_0 rfl rfl rfl ?_
  refine n_if_lt (tg := 12) (nx := 4) C dX4_remove_1 rfl rfl (by omega) ?_
  refine w_iload_n (nx := 5) C 1 dX4_remove_4 rfl rfl rfl ?_
  refine w_aload_n (nx := 6) C 0 dX4_remove_5 rfl rfl rfl ?_
  refine w_get (nx := 9) C fc4 (.int (nI z)) 0 3 dX4_remove_6 rfl wl_X4_9 rfl (by decide) rfl rfl ?_
  refine n_icmp_lt (tg := 13) (nx := 12) C dX4_remove_9 rfl rfl (by omega) (by omega) (fun h_2 => ?_) (fun h_2 => ?_)
  · refine w_aload_n (nx := 14) C 0 dX4_remove_13 rfl rfl rfl ?_
    refine w_dup (nx := 15) C dX4_remove_14 rfl rfl ?_
    refine w_get (nx := 18) C fc4 (.int (nI z)) 0 3 dX4_remove_15 rfl wl_X4_9 rfl (by decide) rfl rfl ?_
    refine w_iconst (nx := 19) C (nI 1) dX4_remove_18 rfl (by decide) ?_
    refine w_isub (nx := 20) C (nI (z - 1)) dX4_remove_19 rfl (pk_sub (by omega)) ?_
    refine w_put (nx := 23) (ws2 := [(h, .inr (4, [.int (nI 12), .int (nI 8), .ref b, .int (nI (z - 1))])), (b, aI (kG κ) 96 f)]) C fc4 0 3 dX4_remove_20 rfl wl_X4_9 rfl (by decide) rfl rfl rfl (Nat.le_of_ble_eq_true rfl) rfl ?_
    refine w_iload_n (nx := 24) C 1 dX4_remove_23 rfl rfl rfl ?_
    refine w_aload_n (nx := 25) C 0 dX4_remove_24 rfl rfl rfl ?_
    refine w_get (nx := 28) C fc4 (.int (nI 8)) 0 1 dX4_remove_25 rfl wl_X4_24 rfl (by decide) rfl rfl ?_
    refine w_imul (nx := 29) C (nI (i * 8)) dX4_remove_28 rfl (pk_mul _ _) ?_
    refine w_istore_n (nx := 30) (lo2 := [(2, .int (nI (i * 8))), (0, .ref h), (1, .int (nI i))]) C dX4_remove_29 rfl rfl (by decide) rfl ?_
    have LP_3 : ∀ (N9_30 : Nat) (f2 : Nat → Int32) (q : Nat), (i * 8 ≤ q) → (q ≤ (z - 1) * 8) → (∀ j, (j < i * 8 ∨ q ≤ j) → f2 j = f j) → (∀ j, i * 8 ≤ j → j < q → f2 j = f (j + 8)) → ((z - 1) * 8 - q) < N9_30 → WW κ 0 0 [(h, .inr (4, [.int (nI 12), .int (nI 8), .ref b, .int (nI (z - 1))])), (b, aI (kG κ) 96 f2)] 30 [(0, .ref h), (1, .int (nI i)), (2, .int (nI q))] [] := by
      intro N9_30
      induction N9_30 with
      | zero => intro f2 q hq1 hq2 hk1 hk2 hm9_30; exact absurd hm9_30 (Nat.not_lt_zero _)
      | succ N9_30 ih9_30 =>
        intro f2 q hq1 hq2 hk1 hk2 hm9_30
        refine w_iload_n (nx := 31) C 2 dX4_remove_30 rfl rfl rfl ?_
        refine w_aload_n (nx := 32) C 0 dX4_remove_31 rfl rfl rfl ?_
        refine w_get (nx := 35) C fc4 (.int (nI (z - 1))) 0 3 dX4_remove_32 rfl wl_X4_9 rfl (by decide) rfl rfl ?_
        refine w_aload_n (nx := 36) C 0 dX4_remove_35 rfl rfl rfl ?_
        refine w_get (nx := 39) C fc4 (.int (nI 8)) 0 1 dX4_remove_36 rfl wl_X4_24 rfl (by decide) rfl rfl ?_
        refine w_imul (nx := 40) C (nI ((z - 1) * 8)) dX4_remove_39 rfl (pk_mul _ _) ?_
        refine n_icmp_ge (tg := 66) (nx := 43) C dX4_remove_40 rfl rfl (by omega) (by omega) (fun h_4 => ?_) (fun h_4 => ?_)
        · exact w_vret C E dX4_remove_66 rfl (Nat.le_refl _) (Nat.le_refl _) ⟨_, rfl, rfl, (fun j hj => hk1 j (by omega)), (fun j a b => hk2 j a (by omega))⟩
        · refine w_aload_n (nx := 44) C 0 dX4_remove_43 rfl rfl rfl ?_
          refine w_get (nx := 47) C fc4 (.ref b) 0 2 dX4_remove_44 rfl wl_X4_27 rfl (by decide) rfl rfl ?_
          refine w_iload_n (nx := 48) C 2 dX4_remove_47 rfl rfl rfl ?_
          refine w_aload_n (nx := 49) C 0 dX4_remove_48 rfl rfl rfl ?_
          refine w_get (nx := 52) C fc4 (.ref b) 0 2 dX4_remove_49 rfl wl_X4_27 rfl (by decide) rfl rfl ?_
          refine w_iload_n (nx := 53) C 2 dX4_remove_52 rfl rfl rfl ?_
          refine w_aload_n (nx := 54) C 0 dX4_remove_53 rfl rfl rfl ?_
          refine w_get (nx := 57) C fc4 (.int (nI 8)) 0 1 dX4_remove_54 rfl wl_X4_24 rfl (by decide) rfl rfl ?_
          refine w_iadd (nx := 58) C (nI (q + 8)) dX4_remove_57 rfl (nI_add _ _) ?_
          refine w_iald (nx := 59) C (f2 (q + 8)) 1 (q + 8) dX4_remove_58 rfl rfl (by decide) rfl (by omega) rfl ?_
          refine w_iast (nx := 60) (ws2 := [(h, .inr (4, [.int (nI 12), .int (nI 8), .ref b, .int (nI (z - 1))])), (b, aI (kG κ) 96 (upd f2 q (f2 (q + 8))))]) C 1 q dX4_remove_59 rfl rfl (by decide) rfl (by omega) rfl ?_
          refine w_iinc (nx := 63) (lo2 := [(2, .int (nI (q + 1))), (0, .ref h), (1, .int (nI i))]) C (nI (q + 1)) 2 dX4_remove_60 rfl rfl (nI_add _ _) (by decide) rfl ?_
          refine w_goto (nx := 30) C dX4_remove_63 rfl ?_
          refine ww_lo [1, 2, 0] (lo' := [(0, .ref h), (1, .int (nI i)), (2, .int (nI (q + 1)))]) rfl ?_
          exact ih9_30 (upd f2 q (f2 (q + 8))) (q + 1) (by first | assumption | omega) (by first | assumption | omega) (fun j hj => (upd_n (by omega)).trans (hk1 j (by omega))) (fun j a b => (Nat.lt_or_ge j q).elim (fun z => (upd_n (by omega)).trans (hk2 j a z)) (fun z => (upd_e (by omega)).trans ((hk1 _ (by omega)).trans (congrArg f (by omega))))) (by omega)
    refine ww_lo [1, 2, 0] (lo' := [(0, .ref h), (1, .int (nI i)), (2, .int (nI (i * 8)))]) rfl ?_
    exact LP_3 _ f (i * 8) (by first | assumption | omega) (by first | assumption | omega) (fun _ _ => rfl) (fun j a b => absurd b (by omega)) (Nat.lt_succ_self _)
  · exact absurd hi h_2
set_option maxHeartbeats 4000000 in
set_option maxRecDepth 100000 in
theorem c_X4_copyFrom (l : Launch) (G : GG) (h : Nat) (b : Nat) (L : Nat) (w : Nat) (z : Nat) (m : Nat) (f : Nat → Int32) (h2 : Nat) (b2 : Nat) (g : Nat → Int32) (x : Int32) (hm : m = L * w) (hm2 : m < 100000) (hz : z ≤ L) (hL : L < 100000) (hw : w < 100000) : MT l G yX4_copyFrom cX4_copyFrom 3 none 1 0 0 [.ref h, .ref h2] [(h, .inr (4, [.int (nI L), .int (nI w), .ref b, .int x])), (b, aI G m g), (h2, .inr (4, [.int (nI L), .int (nI w), .ref b2, .int (nI z)])), (b2, aI G m f)] (fun v9 ws9 => ∃ (g2 : Nat → Int32), v9 = none ∧ ws9 = [(h, .inr (4, [.int (nI L), .int (nI w), .ref b, .int (nI z)])), (b, aI G m g2), (h2, .inr (4, [.int (nI L), .int (nI w), .ref b2, .int (nI z)])), (b2, aI G m f)] ∧ (∀ j, j < z * w → g2 j = f j)) := by
  refine MT.of RX4 [(0, .ref h), (1, .ref h2)] (by decide +kernel) rfl rfl (Nat.le_of_ble_eq_true rfl) (fun κ C E hl9 hG9 hnm9 => ?_)
  subst hl9; subst hG9
  have hzw : z * w ≤ m := hm ▸ Nat.mul_le_mul_right w hz
  refine w_aload_n (nx := 1) C 1 dX4_copyFrom_0 rfl rfl rfl ?_
  refine w_get (nx := 4) C fc4 (.int (nI z)) 2 3 dX4_copyFrom_1 rfl wl_X4_9 rfl (by decide) rfl rfl ?_
  refine w_aload_n (nx := 5) C 1 dX4_copyFrom_4 rfl rfl rfl ?_
  refine w_get (nx := 8) C fc4 (.int (nI w)) 2 1 dX4_copyFrom_5 rfl wl_X4_24 rfl (by decide) rfl rfl ?_
  refine w_imul (nx := 9) C (nI (z * w)) dX4_copyFrom_8 rfl (pk_mul _ _) ?_
  refine w_aload_n (nx := 10) C 1 dX4_copyFrom_9 rfl rfl rfl ?_
  refine w_get (nx := 13) C fc4 (.ref b2) 2 2 dX4_copyFrom_10 rfl wl_X4_27 rfl (by decide) rfl rfl ?_
  refine w_alen (nx := 14) C (nI m) 3 dX4_copyFrom_13 rfl rfl rfl ?_
  refine w_aload_n (nx := 15) C 0 dX4_copyFrom_14 rfl rfl rfl ?_
  refine w_get (nx := 18) C fc4 (.ref b) 0 2 dX4_copyFrom_15 rfl wl_X4_27 rfl (by decide) rfl rfl ?_
  refine w_alen (nx := 19) C (nI m) 1 dX4_copyFrom_18 rfl rfl rfl ?_
  refine w_min (nx := 22) (rest := [.int (nI (z * w))]) C (nI m) dX4_copyFrom_19 rfl wl_X4_31 (Nat.le_of_ble_eq_true rfl) (Nat.le_of_ble_eq_true rfl) (Nat.zero_le _) (Nat.zero_le _) (ite_self _) ?_
  refine w_min (nx := 25) (rest := []) C (nI (z * w)) dX4_copyFrom_22 rfl wl_X4_31 (Nat.le_of_ble_eq_true rfl) (Nat.le_of_ble_eq_true rfl) (Nat.zero_le _) (Nat.zero_le _) (if_neg (nI_nlt hzw (by omega))) ?_
  refine w_istore_n (nx := 26) (lo2 := [(2, .int (nI (z * w))), (0, .ref h), (1, .ref h2)]) C dX4_copyFrom_25 rfl rfl (by decide) rfl ?_
  refine w_aload_n (nx := 27) C 2 dX4_copyFrom_26 rfl rfl rfl ?_
  refine w_get (nx := 30) C fc4 (.ref b2) 2 2 dX4_copyFrom_27 rfl wl_X4_27 rfl (by decide) rfl rfl ?_
  refine w_iconst (nx := 31) C (nI 0) dX4_copyFrom_30 rfl (by decide) ?_
  refine w_aload_n (nx := 32) C 1 dX4_copyFrom_31 rfl rfl rfl ?_
  refine w_get (nx := 35) C fc4 (.ref b) 0 2 dX4_copyFrom_32 rfl wl_X4_27 rfl (by decide) rfl rfl ?_
  refine w_iconst (nx := 36) C (nI 0) dX4_copyFrom_35 rfl (by decide) ?_
  refine w_iload_n (nx := 37) C 0 dX4_copyFrom_36 rfl rfl rfl ?_
  refine w_copy (nx := 40) (rest := []) (ws2 := [(h, .inr (4, [.int (nI L), .int (nI w), .ref b, .int x])), (b, aI (kG κ) m (va_cpy f g 0 0 (z * w))), (h2, .inr (4, [.int (nI L), .int (nI w), .ref b2, .int (nI z)])), (b2, aI (kG κ) m f)]) C 3 1 0 0 (z * w) dX4_copyFrom_37 rfl wl_X4_34 rfl rfl (by omega) (by omega) rfl rfl rfl (by omega) (by omega) (Nat.le_of_ble_eq_true rfl) (Nat.le_of_ble_eq_true rfl) rfl ?_
  refine w_aload_n (nx := 41) C 1 dX4_copyFrom_40 rfl rfl rfl ?_
  refine w_aload_n (nx := 42) C 2 dX4_copyFrom_41 rfl rfl rfl ?_
  refine w_get (nx := 45) C fc4 (.int (nI z)) 2 3 dX4_copyFrom_42 rfl wl_X4_9 rfl (by decide) rfl rfl ?_
  refine w_aload_n (nx := 46) C 1 dX4_copyFrom_45 rfl rfl rfl ?_
  refine w_get (nx := 49) C fc4 (.int (nI L)) 0 0 dX4_copyFrom_46 rfl wl_X4_21 rfl (by decide) rfl rfl ?_
  refine w_min (nx := 52) (rest := [.ref h]) C (nI z) dX4_copyFrom_49 rfl wl_X4_31 (Nat.le_of_ble_eq_true rfl) (Nat.le_of_ble_eq_true rfl) (Nat.zero_le _) (Nat.zero_le _) (if_neg (nI_nlt hz (by omega))) ?_
  refine w_put (nx := 55) (ws2 := [(h, .inr (4, [.int (nI L), .int (nI w), .ref b, .int (nI z)])), (b, aI (kG κ) m (va_cpy f g 0 0 (z * w))), (h2, .inr (4, [.int (nI L), .int (nI w), .ref b2, .int (nI z)])), (b2, aI (kG κ) m f)]) C fc4 0 3 dX4_copyFrom_52 rfl wl_X4_9 rfl (by decide) rfl rfl rfl (Nat.le_of_ble_eq_true rfl) rfl ?_
  exact w_vret C E dX4_copyFrom_55 rfl (Nat.le_refl _) (Nat.le_refl _) ⟨_, rfl, rfl, (fun j hj => (pk_cpy_in (by omega) (by omega)).trans (congrArg f (by omega)))⟩
set_option maxHeartbeats 4000000 in
set_option maxRecDepth 100000 in
theorem c_X4_init_12_8 (l : Launch) (G : GG) (h : Nat)  : MT l G yX4_init cX4_init 3 none 1 1 96 [.ref h, .int (nI 12), .int (nI 8)] [(h, .inr (4, [.int 0, .int 0, .null, .int 0]))] (fun v9 ws9 => ∃ (b : Nat), v9 = none ∧ ws9 = [(h, .inr (4, [.int (nI 12), .int (nI 8), .ref b, .int (nI 0)])), (b, aI G 96 (fun _ => 0))]) := by
  refine MT.of RX4 [(0, .ref h), (1, .int (nI 12)), (2, .int (nI 8))] (by decide +kernel) rfl rfl (Nat.le_of_ble_eq_true rfl) (fun κ C E hl9 hG9 hnm9 => ?_)
  subst hl9; subst hG9
  refine w_aload_n (nx := 1) C 0 dX4_init_0 rfl rfl rfl ?_
  refine w_obj (nx := 4) (rest := []) C dX4_init_1 rfl wl_X4_3 (Nat.le_of_ble_eq_true rfl) (Nat.le_of_ble_eq_true rfl) ?_
  refine w_aload_n (nx := 5) C 0 dX4_init_4 rfl rfl rfl ?_
  refine w_iconst (nx := 6) C (nI 0) dX4_init_5 rfl (by decide) ?_
  refine w_put (nx := 9) (ws2 := [(h, .inr (4, [.int 0, .int 0, .null, .int (nI 0)]))]) C fc4 0 3 dX4_init_6 rfl wl_X4_9 rfl (by decide) rfl rfl rfl (Nat.le_of_ble_eq_true rfl) rfl ?_
  refine w_aload_n (nx := 10) C 0 dX4_init_9 rfl rfl rfl ?_
  refine w_iload_n (nx := 11) C 1 dX4_init_10 rfl rfl rfl ?_
  refine w_iconst (nx := 12) C (nI 0) dX4_init_11 rfl (by decide) ?_
  refine w_max (nx := 15) (rest := [.ref h]) C (nI 12) dX4_init_12 rfl wl_X4_15 (Nat.le_of_ble_eq_true rfl) (Nat.le_of_ble_eq_true rfl) (Nat.zero_le _) (Nat.zero_le _) (if_neg (by decide)) ?_
  refine w_putF (nx := 18) (ws2 := [(h, .inr (4, [.int (nI 12), .int 0, .null, .int (nI 0)]))]) C fc4 0 0 hnm9 dX4_init_15 rfl wl_X4_21 rfl (by decide) rfl rfl rfl (Nat.le_of_ble_eq_true rfl) rfl ?_
  refine w_aload_n (nx := 19) C 0 dX4_init_18 rfl rfl rfl ?_
  refine w_iload_n (nx := 20) C 2 dX4_init_19 rfl rfl rfl ?_
  refine w_iconst (nx := 21) C (nI 0) dX4_init_20 rfl (by decide) ?_
  refine w_max (nx := 24) (rest := [.ref h]) C (nI 8) dX4_init_21 rfl wl_X4_15 (Nat.le_of_ble_eq_true rfl) (Nat.le_of_ble_eq_true rfl) (Nat.zero_le _) (Nat.zero_le _) (if_neg (by decide)) ?_
  refine w_putF (nx := 27) (ws2 := [(h, .inr (4, [.int (nI 12), .int (nI 8), .null, .int (nI 0)]))]) C fc4 0 1 hnm9 dX4_init_24 rfl wl_X4_24 rfl (by decide) rfl rfl rfl (Nat.le_of_ble_eq_true rfl) rfl ?_
  refine w_aload_n (nx := 28) C 0 dX4_init_27 rfl rfl rfl ?_
  refine w_aload_n (nx := 29) C 0 dX4_init_28 rfl rfl rfl ?_
  refine w_get (nx := 32) C fc4 (.int (nI 12)) 0 0 dX4_init_29 rfl wl_X4_21 rfl (by decide) rfl rfl ?_
  refine w_aload_n (nx := 33) C 0 dX4_init_32 rfl rfl rfl ?_
  refine w_get (nx := 36) C fc4 (.int (nI 8)) 0 1 dX4_init_33 rfl wl_X4_24 rfl (by decide) rfl rfl ?_
  refine w_imul (nx := 37) C (nI 96) dX4_init_36 rfl (pk_mul _ _) ?_
  refine w_newa (nx := 39) C (ty := .int) rfl 0 rfl (fun h => h) rfl wa_int 96 dX4_init_37 rfl rfl (by decide) (by decide) (Nat.le_of_ble_eq_true rfl) (Nat.le_of_ble_eq_true rfl) (fun q_1 => ?_)
  show WW κ 1 96 [(q_1, aI (kG κ) 96 (fun _ => 0)), (h, .inr (4, [.int (nI 12), .int (nI 8), .null, .int (nI 0)]))] 39 [(0, .ref h), (1, .int (nI 12)), (2, .int (nI 8))] [.ref q_1, .ref h]
  refine w_putF (nx := 42) (ws2 := [(q_1, aI (kG κ) 96 (fun _ => 0)), (h, .inr (4, [.int (nI 12), .int (nI 8), .ref q_1, .int (nI 0)]))]) C fc4 1 2 hnm9 dX4_init_39 rfl wl_X4_27 rfl (by decide) rfl rfl rfl (Nat.le_of_ble_eq_true rfl) rfl ?_
  refine ww_sel (l := [(h, .inr (4, [.int (nI 12), .int (nI 8), .ref q_1, .int (nI 0)])), (q_1, aI (kG κ) 96 (fun _ => 0))]) (pm_sel [1, 0] 2 (by decide +kernel) rfl rfl) ?_
  exact w_vret C E dX4_init_42 rfl (Nat.le_refl _) (Nat.le_refl _) ⟨_, rfl, rfl⟩
set_option maxHeartbeats 4000000 in
set_option maxRecDepth 100000 in
theorem c_X4_init_100_6 (l : Launch) (G : GG) (h : Nat)  : MT l G yX4_init cX4_init 3 none 1 1 600 [.ref h, .int (nI 100), .int (nI 6)] [(h, .inr (4, [.int 0, .int 0, .null, .int 0]))] (fun v9 ws9 => ∃ (b : Nat), v9 = none ∧ ws9 = [(h, .inr (4, [.int (nI 100), .int (nI 6), .ref b, .int (nI 0)])), (b, aI G 600 (fun _ => 0))]) := by
  refine MT.of RX4 [(0, .ref h), (1, .int (nI 100)), (2, .int (nI 6))] (by decide +kernel) rfl rfl (Nat.le_of_ble_eq_true rfl) (fun κ C E hl9 hG9 hnm9 => ?_)
  subst hl9; subst hG9
  refine w_aload_n (nx := 1) C 0 dX4_init_0 rfl rfl rfl ?_
  refine w_obj (nx := 4) (rest := []) C dX4_init_1 rfl wl_X4_3 (Nat.le_of_ble_eq_true rfl) (Nat.le_of_ble_eq_true rfl) ?_
  refine w_aload_n (nx := 5) C 0 dX4_init_4 rfl rfl rfl ?_
  refine w_iconst (nx := 6) C (nI 0) dX4_init_5 rfl (by decide) ?_
  refine w_put (nx := 9) (ws2 := [(h, .inr (4, [.int 0, .int 0, .null, .int (nI 0)]))]) C fc4 0 3 dX4_init_6 rfl wl_X4_9 rfl (by decide) rfl rfl rfl (Nat.le_of_ble_eq_true rfl) rfl ?_
  refine w_aload_n (nx := 10) C 0 dX4_init_9 rfl rfl rfl ?_
  refine w_iload_n (nx := 11) C 1 dX4_init_10 rfl rfl rfl ?_
  refine w_iconst (nx := 12) C (nI 0) dX4_init_11 rfl (by decide) ?_
  refine w_max (nx := 15) (rest := [.ref h]) C (nI 100) dX4_init_12 rfl wl_X4_15 (Nat.le_of_ble_eq_true rfl) (Nat.le_of_ble_eq_true rfl) (Nat.zero_le _) (Nat.zero_le _) (if_neg (by decide)) ?_
  refine w_putF (nx := 18) (ws2 := [(h, .inr (4, [.int (nI 100), .int 0, .null, .int (nI 0)]))]) C fc4 0 0 hnm9 dX4_init_15 rfl wl_X4_21 rfl (by decide) rfl rfl rfl (Nat.le_of_ble_eq_true rfl) rfl ?_
  refine w_aload_n (nx := 19) C 0 dX4_init_18 rfl rfl rfl ?_
  refine w_iload_n (nx := 20) C 2 dX4_init_19 rfl rfl rfl ?_
  refine w_iconst (nx := 21) C (nI 0) dX4_init_20 rfl (by decide) ?_
  refine w_max (nx := 24) (rest := [.ref h]) C (nI 6) dX4_init_21 rfl wl_X4_15 (Nat.le_of_ble_eq_true rfl) (Nat.le_of_ble_eq_true rfl) (Nat.zero_le _) (Nat.zero_le _) (if_neg (by decide)) ?_
  refine w_putF (nx := 27) (ws2 := [(h, .inr (4, [.int (nI 100), .int (nI 6), .null, .int (nI 0)]))]) C fc4 0 1 hnm9 dX4_init_24 rfl wl_X4_24 rfl (by decide) rfl rfl rfl (Nat.le_of_ble_eq_true rfl) rfl ?_
  refine w_aload_n (nx := 28) C 0 dX4_init_27 rfl rfl rfl ?_
  refine w_aload_n (nx := 29) C 0 dX4_init_28 rfl rfl rfl ?_
  refine w_get (nx := 32) C fc4 (.int (nI 100)) 0 0 dX4_init_29 rfl wl_X4_21 rfl (by decide) rfl rfl ?_
  refine w_aload_n (nx := 33) C 0 dX4_init_32 rfl rfl rfl ?_
  refine w_get (nx := 36) C fc4 (.int (nI 6)) 0 1 dX4_init_33 rfl wl_X4_24 rfl (by decide) rfl rfl ?_
  refine w_imul (nx := 37) C (nI 600) dX4_init_36 rfl (pk_mul _ _) ?_
  refine w_newa (nx := 39) C (ty := .int) rfl 0 rfl (fun h => h) rfl wa_int 600 dX4_init_37 rfl rfl (by decide) (by decide) (Nat.le_of_ble_eq_true rfl) (Nat.le_of_ble_eq_true rfl) (fun q_1 => ?_)
  show WW κ 1 600 [(q_1, aI (kG κ) 600 (fun _ => 0)), (h, .inr (4, [.int (nI 100), .int (nI 6), .null, .int (nI 0)]))] 39 [(0, .ref h), (1, .int (nI 100)), (2, .int (nI 6))] [.ref q_1, .ref h]
  refine w_putF (nx := 42) (ws2 := [(q_1, aI (kG κ) 600 (fun _ => 0)), (h, .inr (4, [.int (nI 100), .int (nI 6), .ref q_1, .int (nI 0)]))]) C fc4 1 2 hnm9 dX4_init_39 rfl wl_X4_27 rfl (by decide) rfl rfl rfl (Nat.le_of_ble_eq_true rfl) rfl ?_
  refine ww_sel (l := [(h, .inr (4, [.int (nI 100), .int (nI 6), .ref q_1, .int (nI 0)])), (q_1, aI (kG κ) 600 (fun _ => 0))]) (pm_sel [1, 0] 2 (by decide +kernel) rfl rfl) ?_
  exact w_vret C E dX4_init_42 rfl (Nat.le_refl _) (Nat.le_refl _) ⟨_, rfl, rfl⟩
set_option maxHeartbeats 4000000 in
set_option maxRecDepth 100000 in
theorem c_X4_init_100_7 (l : Launch) (G : GG) (h : Nat)  : MT l G yX4_init cX4_init 3 none 1 1 700 [.ref h, .int (nI 100), .int (nI 7)] [(h, .inr (4, [.int 0, .int 0, .null, .int 0]))] (fun v9 ws9 => ∃ (b : Nat), v9 = none ∧ ws9 = [(h, .inr (4, [.int (nI 100), .int (nI 7), .ref b, .int (nI 0)])), (b, aI G 700 (fun _ => 0))]) := by
  refine MT.of RX4 [(0, .ref h), (1, .int (nI 100)), (2, .int (nI 7))] (by decide +kernel) rfl rfl (Nat.le_of_ble_eq_true rfl) (fun κ C E hl9 hG9 hnm9 => ?_)
  subst hl9; subst hG9
  refine w_aload_n (nx := 1) C 0 dX4_init_0 rfl rfl rfl ?_
  refine w_obj (nx := 4) (rest := []) C dX4_init_1 rfl wl_X4_3 (Nat.le_of_ble_eq_true rfl) (Nat.le_of_ble_eq_true rfl) ?_
  refine w_aload_n (nx := 5) C 0 dX4_init_4 rfl rfl rfl ?_
  refine w_iconst (nx := 6) C (nI 0) dX4_init_5 rfl (by decide) ?_
  refine w_put (nx := 9) (ws2 := [(h, .inr (4, [.int 0, .int 0, .null, .int (nI 0)]))]) C fc4 0 3 dX4_init_6 rfl wl_X4_9 rfl (by decide) rfl rfl rfl (Nat.le_of_ble_eq_true rfl) rfl ?_
  refine w_aload_n (nx := 10) C 0 dX4_init_9 rfl rfl rfl ?_
  refine w_iload_n (nx := 11) C 1 dX4_init_10 rfl rfl rfl ?_
  refine w_iconst (nx := 12) C (nI 0) dX4_init_11 rfl (by decide) ?_
  refine w_max (nx := 15) (rest := [.ref h]) C (nI 100) dX4_init_12 rfl wl_X4_15 (Nat.le_of_ble_eq_true rfl) (Nat.le_of_ble_eq_true rfl) (Nat.zero_le _) (Nat.zero_le _) (if_neg (by decide)) ?_
  refine w_putF (nx := 18) (ws2 := [(h, .inr (4, [.int (nI 100), .int 0, .null, .int (nI 0)]))]) C fc4 0 0 hnm9 dX4_init_15 rfl wl_X4_21 rfl (by decide) rfl rfl rfl (Nat.le_of_ble_eq_true rfl) rfl ?_
  refine w_aload_n (nx := 19) C 0 dX4_init_18 rfl rfl rfl ?_
  refine w_iload_n (nx := 20) C 2 dX4_init_19 rfl rfl rfl ?_
  refine w_iconst (nx := 21) C (nI 0) dX4_init_20 rfl (by decide) ?_
  refine w_max (nx := 24) (rest := [.ref h]) C (nI 7) dX4_init_21 rfl wl_X4_15 (Nat.le_of_ble_eq_true rfl) (Nat.le_of_ble_eq_true rfl) (Nat.zero_le _) (Nat.zero_le _) (if_neg (by decide)) ?_
  refine w_putF (nx := 27) (ws2 := [(h, .inr (4, [.int (nI 100), .int (nI 7), .null, .int (nI 0)]))]) C fc4 0 1 hnm9 dX4_init_24 rfl wl_X4_24 rfl (by decide) rfl rfl rfl (Nat.le_of_ble_eq_true rfl) rfl ?_
  refine w_aload_n (nx := 28) C 0 dX4_init_27 rfl rfl rfl ?_
  refine w_aload_n (nx := 29) C 0 dX4_init_28 rfl rfl rfl ?_
  refine w_get (nx := 32) C fc4 (.int (nI 100)) 0 0 dX4_init_29 rfl wl_X4_21 rfl (by decide) rfl rfl ?_
  refine w_aload_n (nx := 33) C 0 dX4_init_32 rfl rfl rfl ?_
  refine w_get (nx := 36) C fc4 (.int (nI 7)) 0 1 dX4_init_33 rfl wl_X4_24 rfl (by decide) rfl rfl ?_
  refine w_imul (nx := 37) C (nI 700) dX4_init_36 rfl (pk_mul _ _) ?_
  refine w_newa (nx := 39) C (ty := .int) rfl 0 rfl (fun h => h) rfl wa_int 700 dX4_init_37 rfl rfl (by decide) (by decide) (Nat.le_of_ble_eq_true rfl) (Nat.le_of_ble_eq_true rfl) (fun q_1 => ?_)
  show WW κ 1 700 [(q_1, aI (kG κ) 700 (fun _ => 0)), (h, .inr (4, [.int (nI 100), .int (nI 7), .null, .int (nI 0)]))] 39 [(0, .ref h), (1, .int (nI 100)), (2, .int (nI 7))] [.ref q_1, .ref h]
  refine w_putF (nx := 42) (ws2 := [(q_1, aI (kG κ) 700 (fun _ => 0)), (h, .inr (4, [.int (nI 100), .int (nI 7), .ref q_1, .int (nI 0)]))]) C fc4 1 2 hnm9 dX4_init_39 rfl wl_X4_27 rfl (by decide) rfl rfl rfl (Nat.le_of_ble_eq_true rfl) rfl ?_
  refine ww_sel (l := [(h, .inr (4, [.int (nI 100), .int (nI 7), .ref q_1, .int (nI 0)])), (q_1, aI (kG κ) 700 (fun _ => 0))]) (pm_sel [1, 0] 2 (by decide +kernel) rfl rfl) ?_
  exact w_vret C E dX4_init_42 rfl (Nat.le_refl _) (Nat.le_refl _) ⟨_, rfl, rfl⟩
set_option maxHeartbeats 4000000 in
set_option maxRecDepth 100000 in
theorem c_X4_init_100_2 (l : Launch) (G : GG) (h : Nat)  : MT l G yX4_init cX4_init 3 none 1 1 200 [.ref h, .int (nI 100), .int (nI 2)] [(h, .inr (4, [.int 0, .int 0, .null, .int 0]))] (fun v9 ws9 => ∃ (b : Nat), v9 = none ∧ ws9 = [(h, .inr (4, [.int (nI 100), .int (nI 2), .ref b, .int (nI 0)])), (b, aI G 200 (fun _ => 0))]) := by
  refine MT.of RX4 [(0, .ref h), (1, .int (nI 100)), (2, .int (nI 2))] (by decide +kernel) rfl rfl (Nat.le_of_ble_eq_true rfl) (fun κ C E hl9 hG9 hnm9 => ?_)
  subst hl9; subst hG9
  refine w_aload_n (nx := 1) C 0 dX4_init_0 rfl rfl rfl ?_
  refine w_obj (nx := 4) (rest := []) C dX4_init_1 rfl wl_X4_3 (Nat.le_of_ble_eq_true rfl) (Nat.le_of_ble_eq_true rfl) ?_
  refine w_aload_n (nx := 5) C 0 dX4_init_4 rfl rfl rfl ?_
  refine w_iconst (nx := 6) C (nI 0) dX4_init_5 rfl (by decide) ?_
  refine w_put (nx := 9) (ws2 := [(h, .inr (4, [.int 0, .int 0, .null, .int (nI 0)]))]) C fc4 0 3 dX4_init_6 rfl wl_X4_9 rfl (by decide) rfl rfl rfl (Nat.le_of_ble_eq_true rfl) rfl ?_
  refine w_aload_n (nx := 10) C 0 dX4_init_9 rfl rfl rfl ?_
  refine w_iload_n (nx := 11) C 1 dX4_init_10 rfl rfl rfl ?_
  refine w_iconst (nx := 12) C (nI 0) dX4_init_11 rfl (by decide) ?_
  refine w_max (nx := 15) (rest := [.ref h]) C (nI 100) dX4_init_12 rfl wl_X4_15 (Nat.le_of_ble_eq_true rfl) (Nat.le_of_ble_eq_true rfl) (Nat.zero_le _) (Nat.zero_le _) (if_neg (by decide)) ?_
  refine w_putF (nx := 18) (ws2 := [(h, .inr (4, [.int (nI 100), .int 0, .null, .int (nI 0)]))]) C fc4 0 0 hnm9 dX4_init_15 rfl wl_X4_21 rfl (by decide) rfl rfl rfl (Nat.le_of_ble_eq_true rfl) rfl ?_
  refine w_aload_n (nx := 19) C 0 dX4_init_18 rfl rfl rfl ?_
  refine w_iload_n (nx := 20) C 2 dX4_init_19 rfl rfl rfl ?_
  refine w_iconst (nx := 21) C (nI 0) dX4_init_20 rfl (by decide) ?_
  refine w_max (nx := 24) (rest := [.ref h]) C (nI 2) dX4_init_21 rfl wl_X4_15 (Nat.le_of_ble_eq_true rfl) (Nat.le_of_ble_eq_true rfl) (Nat.zero_le _) (Nat.zero_le _) (if_neg (by decide)) ?_
  refine w_putF (nx := 27) (ws2 := [(h, .inr (4, [.int (nI 100), .int (nI 2), .null, .int (nI 0)]))]) C fc4 0 1 hnm9 dX4_init_24 rfl wl_X4_24 rfl (by decide) rfl rfl rfl (Nat.le_of_ble_eq_true rfl) rfl ?_
  refine w_aload_n (nx := 28) C 0 dX4_init_27 rfl rfl rfl ?_
  refine w_aload_n (nx := 29) C 0 dX4_init_28 rfl rfl rfl ?_
  refine w_get (nx := 32) C fc4 (.int (nI 100)) 0 0 dX4_init_29 rfl wl_X4_21 rfl (by decide) rfl rfl ?_
  refine w_aload_n (nx := 33) C 0 dX4_init_32 rfl rfl rfl ?_
  refine w_get (nx := 36) C fc4 (.int (nI 2)) 0 1 dX4_init_33 rfl wl_X4_24 rfl (by decide) rfl rfl ?_
  refine w_imul (nx := 37) C (nI 200) dX4_init_36 rfl (pk_mul _ _) ?_
  refine w_newa (nx := 39) C (ty := .int) rfl 0 rfl (fun h => h) rfl wa_int 200 dX4_init_37 rfl rfl (by decide) (by decide) (Nat.le_of_ble_eq_true rfl) (Nat.le_of_ble_eq_true rfl) (fun q_1 => ?_)
  show WW κ 1 200 [(q_1, aI (kG κ) 200 (fun _ => 0)), (h, .inr (4, [.int (nI 100), .int (nI 2), .null, .int (nI 0)]))] 39 [(0, .ref h), (1, .int (nI 100)), (2, .int (nI 2))] [.ref q_1, .ref h]
  refine w_putF (nx := 42) (ws2 := [(q_1, aI (kG κ) 200 (fun _ => 0)), (h, .inr (4, [.int (nI 100), .int (nI 2), .ref q_1, .int (nI 0)]))]) C fc4 1 2 hnm9 dX4_init_39 rfl wl_X4_27 rfl (by decide) rfl rfl rfl (Nat.le_of_ble_eq_true rfl) rfl ?_
  refine ww_sel (l := [(h, .inr (4, [.int (nI 100), .int (nI 2), .ref q_1, .int (nI 0)])), (q_1, aI (kG κ) 200 (fun _ => 0))]) (pm_sel [1, 0] 2 (by decide +kernel) rfl rfl) ?_
  exact w_vret C E dX4_init_42 rfl (Nat.le_refl _) (Nat.le_refl _) ⟨_, rfl, rfl⟩
set_option maxHeartbeats 4000000 in
set_option maxRecDepth 100000 in
theorem c_X4_init_13_4 (l : Launch) (G : GG) (h : Nat)  : MT l G yX4_init cX4_init 3 none 1 1 52 [.ref h, .int (nI 13), .int (nI 4)] [(h, .inr (4, [.int 0, .int 0, .null, .int 0]))] (fun v9 ws9 => ∃ (b : Nat), v9 = none ∧ ws9 = [(h, .inr (4, [.int (nI 13), .int (nI 4), .ref b, .int (nI 0)])), (b, aI G 52 (fun _ => 0))]) := by
  refine MT.of RX4 [(0, .ref h), (1, .int (nI 13)), (2, .int (nI 4))] (by decide +kernel) rfl rfl (Nat.le_of_ble_eq_true rfl) (fun κ C E hl9 hG9 hnm9 => ?_)
  subst hl9; subst hG9
  refine w_aload_n (nx := 1) C 0 dX4_init_0 rfl rfl rfl ?_
  refine w_obj (nx := 4) (rest := []) C dX4_init_1 rfl wl_X4_3 (Nat.le_of_ble_eq_true rfl) (Nat.le_of_ble_eq_true rfl) ?_
  refine w_aload_n (nx := 5) C 0 dX4_init_4 rfl rfl rfl ?_
  refine w_iconst (nx := 6) C (nI 0) dX4_init_5 rfl (by decide) ?_
  refine w_put (nx := 9) (ws2 := [(h, .inr (4, [.int 0, .int 0, .null, .int (nI 0)]))]) C fc4 0 3 dX4_init_6 rfl wl_X4_9 rfl (by decide) rfl rfl rfl (Nat.le_of_ble_eq_true rfl) rfl ?_
  refine w_aload_n (nx := 10) C 0 dX4_init_9 rfl rfl rfl ?_
  refine w_iload_n (nx := 11) C 1 dX4_init_10 rfl rfl rfl ?_
  refine w_iconst (nx := 12) C (nI 0) dX4_init_11 rfl (by decide) ?_
  refine w_max (nx := 15) (rest := [.ref h]) C (nI 13) dX4_init_12 rfl wl_X4_15 (Nat.le_of_ble_eq_true rfl) (Nat.le_of_ble_eq_true rfl) (Nat.zero_le _) (Nat.zero_le _) (if_neg (by decide)) ?_
  refine w_putF (nx := 18) (ws2 := [(h, .inr (4, [.int (nI 13), .int 0, .null, .int (nI 0)]))]) C fc4 0 0 hnm9 dX4_init_15 rfl wl_X4_21 rfl (by decide) rfl rfl rfl (Nat.le_of_ble_eq_true rfl) rfl ?_
  refine w_aload_n (nx := 19) C 0 dX4_init_18 rfl rfl rfl ?_
  refine w_iload_n (nx := 20) C 2 dX4_init_19 rfl rfl rfl ?_
  refine w_iconst (nx := 21) C (nI 0) dX4_init_20 rfl (by decide) ?_
  refine w_max (nx := 24) (rest := [.ref h]) C (nI 4) dX4_init_21 rfl wl_X4_15 (Nat.le_of_ble_eq_true rfl) (Nat.le_of_ble_eq_true rfl) (Nat.zero_le _) (Nat.zero_le _) (if_neg (by decide)) ?_
  refine w_putF (nx := 27) (ws2 := [(h, .inr (4, [.int (nI 13), .int (nI 4), .null, .int (nI 0)]))]) C fc4 0 1 hnm9 dX4_init_24 rfl wl_X4_24 rfl (by decide) rfl rfl rfl (Nat.le_of_ble_eq_true rfl) rfl ?_
  refine w_aload_n (nx := 28) C 0 dX4_init_27 rfl rfl rfl ?_
  refine w_aload_n (nx := 29) C 0 dX4_init_28 rfl rfl rfl ?_
  refine w_get (nx := 32) C fc4 (.int (nI 13)) 0 0 dX4_init_29 rfl wl_X4_21 rfl (by decide) rfl rfl ?_
  refine w_aload_n (nx := 33) C 0 dX4_init_32 rfl rfl rfl ?_
  refine w_get (nx := 36) C fc4 (.int (nI 4)) 0 1 dX4_init_33 rfl wl_X4_24 rfl (by decide) rfl rfl ?_
  refine w_imul (nx := 37) C (nI 52) dX4_init_36 rfl (pk_mul _ _) ?_
  refine w_newa (nx := 39) C (ty := .int) rfl 0 rfl (fun h => h) rfl wa_int 52 dX4_init_37 rfl rfl (by decide) (by decide) (Nat.le_of_ble_eq_true rfl) (Nat.le_of_ble_eq_true rfl) (fun q_1 => ?_)
  show WW κ 1 52 [(q_1, aI (kG κ) 52 (fun _ => 0)), (h, .inr (4, [.int (nI 13), .int (nI 4), .null, .int (nI 0)]))] 39 [(0, .ref h), (1, .int (nI 13)), (2, .int (nI 4))] [.ref q_1, .ref h]
  refine w_putF (nx := 42) (ws2 := [(q_1, aI (kG κ) 52 (fun _ => 0)), (h, .inr (4, [.int (nI 13), .int (nI 4), .ref q_1, .int (nI 0)]))]) C fc4 1 2 hnm9 dX4_init_39 rfl wl_X4_27 rfl (by decide) rfl rfl rfl (Nat.le_of_ble_eq_true rfl) rfl ?_
  refine ww_sel (l := [(h, .inr (4, [.int (nI 13), .int (nI 4), .ref q_1, .int (nI 0)])), (q_1, aI (kG κ) 52 (fun _ => 0))]) (pm_sel [1, 0] 2 (by decide +kernel) rfl rfl) ?_
  exact w_vret C E dX4_init_42 rfl (Nat.le_refl _) (Nat.le_refl _) ⟨_, rfl, rfl⟩
