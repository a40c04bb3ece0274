set_option maxHeartbeats 4000000 in
set_option maxRecDepth 100000 in
theorem c_X3_length (l : Launch) (G : GG) (p : Nat → Nat) (z : Int32) (a : Int32)  : MT l G yX3_length cX3_length 1 (some .int) 1 0 0 [.ref (p 0)] [(p 0, .inr (3, [.ref (p 1), .ref (p 2), .int z, .int a]))] (fun v9 ws9 => v9 = some (.int z) ∧ ws9 = [(p 0, .inr (3, [.ref (p 1), .ref (p 2), .int z, .int a]))]) := by
  refine MT.of RX3 [(0, .ref (p 0))] (by decide +kernel) rfl rfl (Nat.le_of_ble_eq_true rfl) (fun κ C E hl9 hG9 hnm9 => ?_)
  subst hl9; subst hG9
  refine w_aload_n (nx := 1) C 0 dX3_length_0 rfl rfl rfl ?_
  refine w_get (nx := 4) C fc3 (.int z) 0 2 dX3_length_1 rfl wl_X3_24 rfl (by decide) rfl rfl ?_
  exact w_iret (ty := .int) C E dX3_length_4 rfl rfl (Nat.le_refl _) (Nat.le_refl _) ⟨rfl, rfl⟩


















