set_option maxHeartbeats 4000000 in
set_option maxRecDepth 100000 in
theorem law_run {κ : KX} (C : CT κ cL_law RL 4 room_1) {b L : Nat} {xs : Nat → Int32} (hX : va_X b L xs (ks κ) (ks κ).heap) (hbl : b < (ks κ).heap.size) (hbA : ¬ kA κ b) (hL : L ≤ 3072) (ha : ka κ = #[Value.ref b]) (hQ : kQ κ = lw_Z (kb κ) #[Value.ref b] (ks κ)) (hA : kA κ = fun q : Nat => (ks κ).heap.size ≤ q) (hRm : kR κ = room_1) (hr : (kh κ).sig.returnType = ret) (hlk : (kh κ).locks = false) : WW κ 0 0 [] 0 [(0, .ref b)] [] := by
  refine w_new (nx := 3) C fc8 [.null, .null, .null, .null, .null] dL_law_0 rfl wl_L_7 wn_X8 wi_X8 df_X8 (Nat.le_of_ble_eq_true rfl) (Nat.le_of_ble_eq_true rfl) (fun q_1 => ?_)
  show WW κ 1 5 [(q_1, .inr (8, [.null, .null, .null, .null, .null]))] 3 [(0, .ref b)] [.ref q_1]
  refine w_dup (nx := 4) C dL_law_3 rfl rfl ?_
  refine w_callI (nx := 7) (wr := []) (rest := [.ref q_1]) C mk_X8_init (c_X8_initR _ _ q_1) dL_law_4 rfl wl_L_9 (pm_sel [0] 1 (by decide +kernel) rfl rfl) rfl rfl (Nat.le_of_ble_eq_true rfl) (Nat.le_of_ble_eq_true rfl) (Nat.le_of_ble_eq_true rfl) (Nat.le_of_ble_eq_true rfl) (Nat.le_of_ble_eq_true rfl) (fun v9 wx R_2 => ?_)
  obtain ⟨w9, rfl, rfl, hRx⟩ := R_2
  refine ww_perm (pm_blkj [wx] [] [0] 1 (by decide +kernel) rfl rfl rfl rfl) ?_
  show WW κ 33 2689 ((wx)) 7 [(0, .ref b)] [.ref q_1]
  refine w_astore_n (nx := 8) (lo2 := [(1, .ref q_1), (0, .ref b)]) C dL_law_7 rfl rfl (by decide) rfl ?_
  refine w_new (nx := 11) C fc9 [.int 0, .null, .null, .null, .int 0, .null, .null, .null, .int 0, .int 0, .int 0, .int 0, .int 0, .int 0, .int 0, .int 0, .int 0, .null, .int 0, .int 0, .int 0, .null, .null, .null, .null, .null, .null, .null, .null, .null, .int 0, .null, .null, .null, .null, .null, .null, .null, .null, .int 0, .int 0, .null, .int 0] dL_law_8 rfl wl_L_10 wn_X9 wi_X9 df_X9 (Nat.le_of_ble_eq_true rfl) (Nat.le_of_ble_eq_true rfl) (fun q_3 => ?_)
  show WW κ 34 2732 ((q_3, .inr (9, [.int 0, .null, .null, .null, .int 0, .null, .null, .null, .int 0, .int 0, .int 0, .int 0, .int 0, .int 0, .int 0, .int 0, .int 0, .null, .int 0, .int 0, .int 0, .null, .null, .null, .null, .null, .null, .null, .null, .null, .int 0, .null, .null, .null, .null, .null, .null, .null, .null, .int 0, .int 0, .null, .int 0])) :: (wx)) 11 [(1, .ref q_1), (0, .ref b)] [.ref q_3]
  refine w_dup (nx := 12) C dL_law_11 rfl rfl ?_
  refine w_callI (nx := 15) (wr := ((wx))) (rest := [.ref q_3]) C mk_X9_init (c_X9_initR _ _ q_3) dL_law_12 rfl wl_L_12 (pm_blkc [[(q_3, .inr (9, [.int 0, .null, .null, .null, .int 0, .null, .null, .null, .int 0, .int 0, .int 0, .int 0, .int 0, .int 0, .int 0, .int 0, .int 0, .null, .int 0, .int 0, .int 0, .null, .null, .null, .null, .null, .null, .null, .null, .null, .int 0, .null, .null, .null, .null, .null, .null, .null, .null, .int 0, .int 0, .null, .int 0]))], wx] [0] [1] 2 (by decide +kernel) rfl rfl rfl rfl) rfl rfl (Nat.le_of_ble_eq_true rfl) (Nat.le_of_ble_eq_true rfl) (Nat.le_of_ble_eq_true rfl) (Nat.le_of_ble_eq_true rfl) (Nat.le_of_ble_eq_true rfl) (fun v9 wm R_4 => ?_)
  obtain ⟨w9, rfl, rfl, hRm9⟩ := R_4
  refine ww_perm (pm_blkj [wm] [wx] [0, 1] 2 (by decide +kernel) rfl rfl rfl rfl) ?_
  show WW κ 59 29800 ((wm ++ wx)) 15 [(1, .ref q_1), (0, .ref b)] [.ref q_3]
  refine w_astore_n (nx := 16) (lo2 := [(2, .ref q_3), (1, .ref q_1), (0, .ref b)]) C dL_law_15 rfl rfl (by decide) rfl ?_
  refine w_iconst (nx := 17) C (nI 0) dL_law_16 rfl (by decide) ?_
  refine w_istore_n (nx := 18) (lo2 := [(3, .int (nI 0)), (2, .ref q_3), (1, .ref q_1), (0, .ref b)]) C dL_law_17 rfl rfl (by decide) rfl ?_
  refine ww_perm List.perm_append_comm ?_
  refine ww_wide (by decide : _ ≤ 100 + 10 * 0) (by decide : _ ≤ 40000 + 813 * 0) ?_
  exact law_loop C hX hbl hbA hL (fun c n ws lo a1 a2 => law_end C hX hbl hbA hL ha hQ hA hRm hr hlk a1 a2) (L + 1) 0 noX wx wm (Nat.zero_le _) (by omega) hRx hRm9
set_option maxHeartbeats 4000000 in
theorem kn_start {s : State} {args : Array Value} (hts0 : ∀ w ∈ lw_tbl, w.before args s = true) : ∃ G : GG, KN G s := by
  have hts := tb_all hts0
  obtain ⟨c0, i0, q0⟩ := u_known (C := RX0) (T := TX0) (N := 11) (n := 11) hts wf_X0 (hts _ wn_X0)
  obtain ⟨c1, i1, q1⟩ := u_known (C := RX1) (T := TX1) (N := 5) (n := 5) hts wf_X1 (hts _ wn_X1)
  obtain ⟨c2, i2, q2⟩ := u_known (C := RX2) (T := TX2) (N := 3) (n := 3) hts wf_X2 (hts _ wn_X2)
  obtain ⟨c3, i3, q3⟩ := u_known (C := RX3) (T := TX3) (N := 4) (n := 4) hts wf_X3 (hts _ wn_X3)
  obtain ⟨c4, i4, q4⟩ := u_known (C := RX4) (T := TX4) (N := 4) (n := 4) hts wf_X4 (hts _ wn_X4)
  obtain ⟨c5, i5, q5⟩ := u_known (C := RX5) (T := TX5) (N := 5) (n := 5) hts wf_X5 (hts _ wn_X5)
  obtain ⟨c6, i6, q6⟩ := u_known (C := RX6) (T := TX6) (N := 3) (n := 3) hts wf_X6 (hts _ wn_X6)
  obtain ⟨c7, i7, q7⟩ := u_known (C := RX7) (T := TX7) (N := 1) (n := 1) hts wf_X7 (hts _ wn_X7)
  obtain ⟨c8, i8, q8⟩ := u_known (C := RX8) (T := TX8) (N := 5) (n := 5) hts wf_X8 (hts _ wn_X8)
  obtain ⟨c9, i9, q9⟩ := u_known (C := RX9) (T := TX9) (N := 43) (n := 43) hts wf_X9 (hts _ wn_X9)
  obtain ⟨dC, dI, hKc⟩ : ∃ (dC : Nat → ClassId) (dI : Nat → Nat → Nat), ∀ (k : Nat) (q : vw_C), vwCl[k]? = some q → u_Kn s q.1 q.2.1 q.2.2 (dC k) (dI k) := by
    refine ⟨fun k => [c0, c1, c2, c3, c4, c5, c6, c7, c8, c9].getD k c0, fun k => [i0, i1, i2, i3, i4, i5, i6, i7, i8, i9].getD k i0, ?_⟩
    intro k q hq
    match k, hq with
    | 0, hq => cases hq; exact q0
    | 1, hq => cases hq; exact q1
    | 2, hq => cases hq; exact q2
    | 3, hq => cases hq; exact q3
    | 4, hq => cases hq; exact q4
    | 5, hq => cases hq; exact q5
    | 6, hq => cases hq; exact q6
    | 7, hq => cases hq; exact q7
    | 8, hq => cases hq; exact q8
    | 9, hq => cases hq; exact q9
    | k + 10, hq => simp [vwCl] at hq
  obtain ⟨a1, k1, p1, f1, g1, e1⟩ := Cond.arrayClass_spec (hts _ wa_int)
  obtain ⟨a2, k2, p2, f2, g2, e2⟩ := Cond.arrayClass_spec (hts _ wa_char)
  obtain ⟨a3, k3, p3, f3, g3, e3⟩ := Cond.arrayClass_spec (hts _ wa_boolean)
  obtain ⟨p4, a4, k4, f4, x4, g4, e4, y4⟩ := Cond.arrayOver_spec (hts0 _ wo_X5)
  refine ⟨((dC, dI), a1, a2, a3, a4), ⟨hKc, fun k q hq => ?_⟩, fun w hw => ?_, va_AO.of (hts0 _ wo_X5)⟩
  · match k, hq with
    | 0, hq => cases hq; exact ⟨fun N z => ⟨(fun k h => by cases h), k1, g1, p1, e1⟩, f1⟩
    | 1, hq => cases hq; exact ⟨fun N z => ⟨(fun k h => by cases h), k2, g2, p2, e2⟩, f2⟩
    | 2, hq => cases hq; exact ⟨fun N z => ⟨(fun k h => by cases h), k3, g3, p3, e3⟩, f3⟩
    | 3, hq => cases hq; exact ⟨fun N z => ⟨(fun k h => by cases h), k4, g4, p4, e4⟩, k4, p4, g4, e4, f4, y4⟩
    | k + 4, hq => simp [gT] at hq
  · refine va_Nw.of ?_ (hts0 w (nest_in w hw))
    simp only [nestW, List.mem_cons, List.not_mem_nil, or_false] at hw
    rcases hw with rfl | rfl | rfl | rfl <;> rfl
