/-! THE REFERENCE'S PARSER -/
def FRM (v w : Nat → Int32) : Prop := w 4 = v 4 ∧ w 8 = v 8 ∧ w 18 = v 18 ∧ w 42 = v 42
def FR3 (v w : Nat → Int32) : Prop := w 4 = v 4 ∧ w 8 = v 8 ∧ w 18 = v 18
theorem FRM.rfl' {v : Nat → Int32} : FRM v v := ⟨rfl, rfl, rfl, rfl⟩
theorem FRM.trans {v w x : Nat → Int32} (h : FRM v w) (h2 : FRM w x) : FRM v x := ⟨h2.1.trans h.1, h2.2.1.trans h.2.1, h2.2.2.1.trans h.2.2.1, h2.2.2.2.trans h.2.2.2⟩
theorem FRM.to3 {v w : Nat → Int32} (h : FRM v w) : FR3 v w := ⟨h.1, h.2.1, h.2.2.1⟩
theorem FR3.trans {v w x : Nat → Int32} (h : FR3 v w) (h2 : FR3 w x) : FR3 v x := ⟨h2.1.trans h.1, h2.2.1.trans h.2.1, h2.2.2.trans h.2.2⟩
theorem rQ_psh2 {f : Nat → Int32} {l : SQ} {a b c d : Nat} (h : rQ f l) (ha : a < 3) (hb : b < 4) (hc : c < 100) (hd : d < 1000) : rQ (upd (upd (upd (upd f (4 * l.1) (nI a)) (4 * l.1 + 1) (nI b)) (4 * l.1 + 2) (nI c)) (4 * l.1 + 3) (nI d)) (psh l (a, b, c, d)) := by
  have h2 := rQ_psh h ha hb hc hd
  rw [show 4 * l.1 = l.1 * 4 + 0 by omega]
  exact h2
theorem sg_le {P : PD} (hw : wfP P) (a : Nat) : sg P a ≤ 126 := by
  by_cases h : a < P.1
  · rw [sg_in h]; exact (hw.2 a h).2
  · rw [sg_out h]; exact Nat.zero_le _
theorem nmL_stp {P : PD} {k a n : Nat} (h : k = 0 ∨ n = 0 ∨ ¬ (48 ≤ sg P a ∧ sg P a ≤ 57)) : (n, a) = nmL P k a n := (nmL_stop h).symm
set_option maxHeartbeats 4000000 in
set_option maxRecDepth 100000 in
theorem c_X9_sign (l : Launch) (G : GG) (a : Nat → Nat) (v : Nat → Int32) (f7 : Nat → Int32) (P : PD) (a0 : Nat) (h8 : v 8 = nI P.1) (hP : rP f7 P) (hw : wfP P) (h39 : v 39 = nI a0) (ha : a0 ≤ 60) : MT l G yX9_sign cX9_sign 1 (some .int) 1 0 0 [.ref (a 0)] [(a 0, mO a v), (a 7, aI G 60 f7)] (fun v9 ws9 => v9 = some (.int (nI (sg P a0))) ∧ ws9 = [(a 0, mO a v), (a 7, aI G 60 f7)]) := by
  refine MT.of RX9 [(0, .ref (a 0))] (by decide +kernel) rfl rfl (Nat.le_of_ble_eq_true rfl) (fun κ C E hl9 hG9 hnm9 => ?_)
  subst hl9; subst hG9
  have hz9 := hw.1
  refine w_aload_n (nx := 1) C 0 dX9_sign_0 rfl rfl rfl ?_
  refine w_getM (nx := 4) C (.int (v 39)) 0 39 dX9_sign_1 rfl wl_X9_236 rfl (by decide) rfl (mg_39 _ _) ?_
  refine w_top (nI a0) h39 ?_
  refine w_aload_n (nx := 5) C 0 dX9_sign_4 rfl rfl rfl ?_
  refine w_getM (nx := 8) C (.int (v 8)) 0 8 dX9_sign_5 rfl wl_X9_231 rfl (by decide) rfl (mg_8 _ _) ?_
  refine w_top (nI P.1) h8 ?_
  refine n_icmp_ge (tg := 23) (nx := 11) C dX9_sign_8 rfl rfl (by omega) (by omega) (fun h_1 => ?_) (fun h_1 => ?_)
  · have hs9 : sg P a0 = 0 := sg_out (by omega)
    refine w_iconst (nx := 24) C (nI 0) dX9_sign_23 rfl (by decide) ?_
    exact w_iret (ty := .int) C E dX9_sign_24 rfl rfl (Nat.le_refl _) (Nat.le_refl _) ⟨(congrArg (fun z => some (Value.int z)) (congrArg nI (by omega))), rfl⟩
  · have hs9 : sg P a0 = P.2 a0 := sg_in (by omega)
    refine w_aload_n (nx := 12) C 0 dX9_sign_11 rfl rfl rfl ?_
    refine w_getM (nx := 15) C (.ref (a 7)) 0 7 dX9_sign_12 rfl wl_X9_26 rfl (by decide) rfl (mg_7 _ _) ?_
    refine w_aload_n (nx := 16) C 0 dX9_sign_15 rfl rfl rfl ?_
    refine w_getM (nx := 19) C (.int (v 39)) 0 39 dX9_sign_16 rfl wl_X9_236 rfl (by decide) rfl (mg_39 _ _) ?_
    refine w_top (nI a0) h39 ?_
    refine w_iald (nx := 20) C (nI (P.2 a0)) 1 a0 dX9_sign_19 rfl rfl (by decide) rfl (by omega) (hP a0 (by omega)) ?_
    refine w_goto (nx := 24) C dX9_sign_20 rfl ?_
    exact w_iret (ty := .int) C E dX9_sign_24 rfl rfl (Nat.le_refl _) (Nat.le_refl _) ⟨(congrArg (fun z => some (Value.int z)) (congrArg nI (by omega))), rfl⟩
set_option maxHeartbeats 4000000 in
set_option maxRecDepth 100000 in
theorem c_X9_takes_w (l : Launch) (G : GG) (a : Nat → Nat) (v : Nat → Int32) (f7 : Nat → Int32) (P : PD) (a0 : Nat) (lo : Nat) (hi : Nat) (h8 : v 8 = nI P.1) (hP : rP f7 P) (hw : wfP P) (h39 : v 39 = nI a0) (ha : a0 ≤ 60) (hlo : lo < 1000) (hhi : hi < 1000) (h40 : v 40 = nI 1) : MT l G yX9_takes cX9_takes 4 (some .int) 2 0 0 [.ref (a 0), .int (nI lo), .int (nI hi)] [(a 0, mO a v), (a 7, aI G 60 f7)] (fun v9 ws9 => (∃ (v2 : Nat → Int32), v9 = some (.int (nI (sg P a0 - lo))) ∧ ws9 = [(a 0, mO a v2), (a 7, aI G 60 f7)] ∧ lo ≤ sg P a0 ∧ sg P a0 ≤ hi ∧ v2 40 = nI 1 ∧ v2 39 = nI (a0 + 1) ∧ FRM v v2) ∨ (∃ (v2 : Nat → Int32) (x : Int32), v9 = some (.int x) ∧ ws9 = [(a 0, mO a v2), (a 7, aI G 60 f7)] ∧ (¬ (lo ≤ sg P a0 ∧ sg P a0 ≤ hi)) ∧ v2 40 = nI 0 ∧ v2 39 = nI a0 ∧ FRM v v2)) := by
  refine MT.of RX9 [(0, .ref (a 0)), (1, .int (nI lo)), (2, .int (nI hi))] (by decide +kernel) rfl rfl (Nat.le_of_ble_eq_true rfl) (fun κ C E hl9 hG9 hnm9 => ?_)
  subst hl9; subst hG9
  have hz9 := hw.1
  have hsl := sg_le hw a0
  refine w_aload_n (nx := 1) C 0 dX9_takes_0 rfl rfl rfl ?_
  refine w_aload_n (nx := 2) C 0 dX9_takes_1 rfl rfl rfl ?_
  refine w_getM (nx := 5) C (.int (v 40)) 0 40 dX9_takes_2 rfl wl_X9_239 rfl (by decide) rfl (mg_40 _ _) ?_
  refine w_top (nI 1) h40 ?_
  refine w_if_eq (tg := 24) (nx := 8) C dX9_takes_5 rfl rfl (fun q9 => absurd q9 (by decide)) (fun _ => ?_)
  refine w_aload_n (nx := 9) C 0 dX9_takes_8 rfl rfl rfl ?_
  refine w_callV (nx := 12) (wr := []) (rest := [.ref (a 0)]) C mi_X9_sign (c_X9_sign _ _ a v f7 P a0 ((by first | assumption | rfl)) (by first | assumption | omega) (by first | assumption | omega) ((by first | assumption | rfl)) (by first | assumption | omega)) 0 dX9_takes_9 rfl wl_X9_243 rfl rfl rfl (pm_sel [0, 1] 2 (by decide +kernel) rfl rfl) rfl rfl (Nat.le_of_ble_eq_true rfl) (Nat.le_of_ble_eq_true rfl) (Nat.le_of_ble_eq_true rfl) (Nat.zero_le _) (Nat.zero_le _) (fun v9 w9 R_2 => ?_)
  obtain ⟨rfl, rfl⟩ := R_2
  show WW κ 0 0 [(a 0, mO a v), (a 7, aI (kG κ) 60 f7)] 12 [(0, .ref (a 0)), (1, .int (nI lo)), (2, .int (nI hi))] [.int (nI (sg P a0)), .ref (a 0)]
  refine w_iload_n (nx := 13) C 1 dX9_takes_12 rfl rfl rfl ?_
  refine w_iload_n (nx := 14) C 2 dX9_takes_13 rfl rfl rfl ?_
  refine w_callS (nx := 17) (wr := [(a 0, mO a v), (a 7, aI (kG κ) 60 f7)]) (rest := [.ref (a 0)]) C ms_X9_in (c_X9_in _ _ (nI (sg P a0)) (nI lo) (nI hi)) dX9_takes_14 rfl wl_X9_93 rfl (pm_sel [0, 1] 2 (by decide +kernel) rfl rfl) rfl rfl (Nat.le_of_ble_eq_true rfl) (Nat.le_of_ble_eq_true rfl) (Nat.le_of_ble_eq_true rfl) (Nat.zero_le _) (Nat.zero_le _) (fun v9 w9 R_3 => ?_)
  obtain ⟨rfl, rfl⟩ := R_3
  show WW κ 0 0 [(a 0, mO a v), (a 7, aI (kG κ) 60 f7)] 17 [(0, .ref (a 0)), (1, .int (nI lo)), (2, .int (nI hi))] [.int (bC ((nI lo) ≤ (nI (sg P a0)) ∧ (nI (sg P a0)) ≤ (nI hi))), .ref (a 0)]
  refine b_if_eq (tg := 24) (nx := 20) C dX9_takes_17 rfl rfl (fun h_4 => ?_) (fun h_4 => ?_)
  · have hg : ¬ (lo ≤ sg P a0 ∧ sg P a0 ≤ hi) := fun z => h_4 ⟨(nI_leI (by omega) (by omega)).mpr z.1, (nI_leI (by omega) (by omega)).mpr z.2⟩
    refine w_iconst (nx := 25) C (nI 0) dX9_takes_24 rfl (by decide) ?_
    refine w_putM (nx := 28) (ws2 := [(a 0, mO a (upd v 40 (nI 0))), (a 7, aI (kG κ) 60 f7)]) C 0 40 dX9_takes_25 rfl wl_X9_239 rfl (by decide) rfl rfl rfl (ms_40 _ _ _) rfl ?_
    refine w_aload_n (nx := 29) C 0 dX9_takes_28 rfl rfl rfl ?_
    refine w_callV (nx := 32) (wr := []) (rest := []) C mi_X9_sign (c_X9_sign _ _ a (upd v 40 (nI 0)) f7 P a0 ((by first | assumption | rfl)) (by first | assumption | omega) (by first | assumption | omega) ((by first | assumption | rfl)) (by first | assumption | omega)) 0 dX9_takes_29 rfl wl_X9_243 rfl rfl rfl (pm_sel [0, 1] 2 (by decide +kernel) rfl rfl) rfl rfl (Nat.le_of_ble_eq_true rfl) (Nat.le_of_ble_eq_true rfl) (Nat.le_of_ble_eq_true rfl) (Nat.zero_le _) (Nat.zero_le _) (fun v9 w9 R_5 => ?_)
    obtain ⟨rfl, rfl⟩ := R_5
    show WW κ 0 0 [(a 0, mO a (upd v 40 (nI 0))), (a 7, aI (kG κ) 60 f7)] 32 [(0, .ref (a 0)), (1, .int (nI lo)), (2, .int (nI hi))] [.int (nI (sg P a0))]
    refine w_iload_n (nx := 33) C 1 dX9_takes_32 rfl rfl rfl ?_
    refine w_isub (nx := 34) C (nI (sg P a0) - nI lo) dX9_takes_33 rfl rfl ?_
    refine w_istore_n (nx := 35) (lo2 := [(3, .int (nI (sg P a0) - nI lo)), (0, .ref (a 0)), (1, .int (nI lo)), (2, .int (nI hi))]) C dX9_takes_34 rfl rfl (by decide) rfl ?_
    refine w_aload_n (nx := 36) C 1 dX9_takes_35 rfl rfl rfl ?_
    refine w_dup (nx := 37) C dX9_takes_36 rfl rfl ?_
    refine w_getM (nx := 40) C (.int (v 39)) 0 39 dX9_takes_37 rfl wl_X9_236 rfl (by decide) rfl (mg_39 _ _) ?_
    refine w_top (nI a0) h39 ?_
    refine w_aload_n (nx := 41) C 1 dX9_takes_40 rfl rfl rfl ?_
    refine w_getM (nx := 44) C (.int (nI 0)) 0 40 dX9_takes_41 rfl wl_X9_239 rfl (by decide) rfl (mg_40 _ _) ?_
    refine w_if_eq (tg := 51) (nx := 47) C dX9_takes_44 rfl rfl (fun _ => ?_) (fun q9 => absurd (by decide) q9)
    refine w_iconst (nx := 52) C (nI 0) dX9_takes_51 rfl (by decide) ?_
    refine w_iadd (nx := 53) C (nI a0) dX9_takes_52 rfl (nI_add _ _) ?_
    refine w_putM (nx := 56) (ws2 := [(a 0, mO a (upd (upd v 40 (nI 0)) 39 (nI a0))), (a 7, aI (kG κ) 60 f7)]) C 0 39 dX9_takes_53 rfl wl_X9_236 rfl (by decide) rfl rfl rfl (ms_39 _ _ _) rfl ?_
    refine w_iload_n (nx := 57) C 0 dX9_takes_56 rfl rfl rfl ?_
    exact w_iret (ty := .int) C E dX9_takes_57 rfl rfl (Nat.le_refl _) (Nat.le_refl _) (Or.inr (⟨_, _, rfl, rfl, (hg), (rfl), (rfl), (⟨rfl, rfl, rfl, rfl⟩)⟩))
  · have hg1 := (nI_leI (by omega) (by omega)).mp h_4.1
    have hg2 := (nI_leI (by omega) (by omega)).mp h_4.2
    refine w_iconst (nx := 21) C (nI 1) dX9_takes_20 rfl (by decide) ?_
    refine w_goto (nx := 25) C dX9_takes_21 rfl ?_
    refine w_putM (nx := 28) (ws2 := [(a 0, mO a (upd v 40 (nI 1))), (a 7, aI (kG κ) 60 f7)]) C 0 40 dX9_takes_25 rfl wl_X9_239 rfl (by decide) rfl rfl rfl (ms_40 _ _ _) rfl ?_
    refine w_aload_n (nx := 29) C 0 dX9_takes_28 rfl rfl rfl ?_
    refine w_callV (nx := 32) (wr := []) (rest := []) C mi_X9_sign (c_X9_sign _ _ a (upd v 40 (nI 1)) f7 P a0 ((by first | assumption | rfl)) (by first | assumption | omega) (by first | assumption | omega) ((by first | assumption | rfl)) (by first | assumption | omega)) 0 dX9_takes_29 rfl wl_X9_243 rfl rfl rfl (pm_sel [0, 1] 2 (by decide +kernel) rfl rfl) rfl rfl (Nat.le_of_ble_eq_true rfl) (Nat.le_of_ble_eq_true rfl) (Nat.le_of_ble_eq_true rfl) (Nat.zero_le _) (Nat.zero_le _) (fun v9 w9 R_7 => ?_)
    obtain ⟨rfl, rfl⟩ := R_7
    show WW κ 0 0 [(a 0, mO a (upd v 40 (nI 1))), (a 7, aI (kG κ) 60 f7)] 32 [(0, .ref (a 0)), (1, .int (nI lo)), (2, .int (nI hi))] [.int (nI (sg P a0))]
    refine w_iload_n (nx := 33) C 1 dX9_takes_32 rfl rfl rfl ?_
    refine w_isub (nx := 34) C (nI (sg P a0 - lo)) dX9_takes_33 rfl (pk_sub hg1) ?_
    refine w_istore_n (nx := 35) (lo2 := [(3, .int (nI (sg P a0 - lo))), (0, .ref (a 0)), (1, .int (nI lo)), (2, .int (nI hi))]) C dX9_takes_34 rfl rfl (by decide) rfl ?_
    refine w_aload_n (nx := 36) C 1 dX9_takes_35 rfl rfl rfl ?_
    refine w_dup (nx := 37) C dX9_takes_36 rfl rfl ?_
    refine w_getM (nx := 40) C (.int (v 39)) 0 39 dX9_takes_37 rfl wl_X9_236 rfl (by decide) rfl (mg_39 _ _) ?_
    refine w_top (nI a0) h39 ?_
    refine w_aload_n (nx := 41) C 1 dX9_takes_40 rfl rfl rfl ?_
    refine w_getM (nx := 44) C (.int (nI 1)) 0 40 dX9_takes_41 rfl wl_X9_239 rfl (by decide) rfl (mg_40 _ _) ?_
    refine w_if_eq (tg := 51) (nx := 47) C dX9_takes_44 rfl rfl (fun q9 => absurd q9 (by decide)) (fun _ => ?_)
    refine w_iconst (nx := 48) C (nI 1) dX9_takes_47 rfl (by decide) ?_
    refine w_goto (nx := 52) C dX9_takes_48 rfl ?_
    refine w_iadd (nx := 53) C (nI (a0 + 1)) dX9_takes_52 rfl (nI_add _ _) ?_
    refine w_putM (nx := 56) (ws2 := [(a 0, mO a (upd (upd v 40 (nI 1)) 39 (nI (a0 + 1)))), (a 7, aI (kG κ) 60 f7)]) C 0 39 dX9_takes_53 rfl wl_X9_236 rfl (by decide) rfl rfl rfl (ms_39 _ _ _) rfl ?_
    refine w_iload_n (nx := 57) C 0 dX9_takes_56 rfl rfl rfl ?_
    exact w_iret (ty := .int) C E dX9_takes_57 rfl rfl (Nat.le_refl _) (Nat.le_refl _) (Or.inl ⟨_, rfl, rfl, (hg1), (hg2), (rfl), (rfl), (⟨rfl, rfl, rfl, rfl⟩)⟩)
set_option maxHeartbeats 4000000 in
set_option maxRecDepth 100000 in
theorem c_X9_takes_n (l : Launch) (G : GG) (a : Nat → Nat) (v : Nat → Int32) (f7 : Nat → Int32) (P : PD) (a0 : Nat) (lo : Nat) (hi : Nat) (h8 : v 8 = nI P.1) (hP : rP f7 P) (hw : wfP P) (h39 : v 39 = nI a0) (ha : a0 ≤ 60) (hlo : lo < 1000) (hhi : hi < 1000) (h40 : v 40 = nI 0) : MT l G yX9_takes cX9_takes 4 (some .int) 2 0 0 [.ref (a 0), .int (nI lo), .int (nI hi)] [(a 0, mO a v), (a 7, aI G 60 f7)] (fun v9 ws9 => ∃ (v2 : Nat → Int32) (x : Int32), v9 = some (.int x) ∧ ws9 = [(a 0, mO a v2), (a 7, aI G 60 f7)] ∧ v2 40 = nI 0 ∧ v2 39 = nI a0 ∧ FRM v v2) := by
  refine MT.of RX9 [(0, .ref (a 0)), (1, .int (nI lo)), (2, .int (nI hi))] (by decide +kernel) rfl rfl (Nat.le_of_ble_eq_true rfl) (fun κ C E hl9 hG9 hnm9 => ?_)
  subst hl9; subst hG9
  have hz9 := hw.1
  have hsl := sg_le hw a0
  refine w_aload_n (nx := 1) C 0 dX9_takes_0 rfl rfl rfl ?_
  refine w_aload_n (nx := 2) C 0 dX9_takes_1 rfl rfl rfl ?_
  refine w_getM (nx := 5) C (.int (v 40)) 0 40 dX9_takes_2 rfl wl_X9_239 rfl (by decide) rfl (mg_40 _ _) ?_
  refine w_top (nI 0) h40 ?_
  refine w_if_eq (tg := 24) (nx := 8) C dX9_takes_5 rfl rfl (fun _ => ?_) (fun q9 => absurd (by decide) q9)
  refine w_iconst (nx := 25) C (nI 0) dX9_takes_24 rfl (by decide) ?_
  refine w_putM (nx := 28) (ws2 := [(a 0, mO a (upd v 40 (nI 0))), (a 7, aI (kG κ) 60 f7)]) C 0 40 dX9_takes_25 rfl wl_X9_239 rfl (by decide) rfl rfl rfl (ms_40 _ _ _) rfl ?_
  refine w_aload_n (nx := 29) C 0 dX9_takes_28 rfl rfl rfl ?_
  refine w_callV (nx := 32) (wr := []) (rest := []) C mi_X9_sign (c_X9_sign _ _ a (upd v 40 (nI 0)) f7 P a0 ((by first | assumption | rfl)) (by first | assumption | omega) (by first | assumption | omega) ((by first | assumption | rfl)) (by first | assumption | omega)) 0 dX9_takes_29 rfl wl_X9_243 rfl rfl rfl (pm_sel [0, 1] 2 (by decide +kernel) rfl rfl) rfl rfl (Nat.le_of_ble_eq_true rfl) (Nat.le_of_ble_eq_true rfl) (Nat.le_of_ble_eq_true rfl) (Nat.zero_le _) (Nat.zero_le _) (fun v9 w9 R_2 => ?_)
  obtain ⟨rfl, rfl⟩ := R_2
  show WW κ 0 0 [(a 0, mO a (upd v 40 (nI 0))), (a 7, aI (kG κ) 60 f7)] 32 [(0, .ref (a 0)), (1, .int (nI lo)), (2, .int (nI hi))] [.int (nI (sg P a0))]
  refine w_iload_n (nx := 33) C 1 dX9_takes_32 rfl rfl rfl ?_
  refine w_isub (nx := 34) C (nI (sg P a0) - nI lo) dX9_takes_33 rfl rfl ?_
  refine w_istore_n (nx := 35) (lo2 := [(3, .int (nI (sg P a0) - nI lo)), (0, .ref (a 0)), (1, .int (nI lo)), (2, .int (nI hi))]) C dX9_takes_34 rfl rfl (by decide) rfl ?_
  refine w_aload_n (nx := 36) C 1 dX9_takes_35 rfl rfl rfl ?_
  refine w_dup (nx := 37) C dX9_takes_36 rfl rfl ?_
  refine w_getM (nx := 40) C (.int (v 39)) 0 39 dX9_takes_37 rfl wl_X9_236 rfl (by decide) rfl (mg_39 _ _) ?_
  refine w_top (nI a0) h39 ?_
  refine w_aload_n (nx := 41) C 1 dX9_takes_40 rfl rfl rfl ?_
  refine w_getM (nx := 44) C (.int (nI 0)) 0 40 dX9_takes_41 rfl wl_X9_239 rfl (by decide) rfl (mg_40 _ _) ?_
  refine w_if_eq (tg := 51) (nx := 47) C dX9_takes_44 rfl rfl (fun _ => ?_) (fun q9 => absurd (by decide) q9)
  refine w_iconst (nx := 52) C (nI 0) dX9_takes_51 rfl (by decide) ?_
  refine w_iadd (nx := 53) C (nI a0) dX9_takes_52 rfl (nI_add _ _) ?_
  refine w_putM (nx := 56) (ws2 := [(a 0, mO a (upd (upd v 40 (nI 0)) 39 (nI a0))), (a 7, aI (kG κ) 60 f7)]) C 0 39 dX9_takes_53 rfl wl_X9_236 rfl (by decide) rfl rfl rfl (ms_39 _ _ _) rfl ?_
  refine w_iload_n (nx := 57) C 0 dX9_takes_56 rfl rfl rfl ?_
  exact w_iret (ty := .int) C E dX9_takes_57 rfl rfl (Nat.le_refl _) (Nat.le_refl _) ⟨_, _, rfl, rfl, (rfl), (rfl), (⟨rfl, rfl, rfl, rfl⟩)⟩
set_option maxHeartbeats 4000000 in
set_option maxRecDepth 100000 in
theorem c_X9_number_w2 (l : Launch) (G : GG) (a : Nat → Nat) (v : Nat → Int32) (f7 : Nat → Int32) (P : PD) (a0 : Nat) (h8 : v 8 = nI P.1) (hP : rP f7 P) (hw : wfP P) (h39 : v 39 = nI a0) (ha : a0 ≤ 60) (h40 : v 40 = nI 1) : MT l G yX9_number cX9_number 4 (some .int) 3 0 0 [.ref (a 0), .int (nI 2)] [(a 0, mO a v), (a 7, aI G 60 f7)] (fun v9 ws9 => (∃ (u2 : Nat) (a2 : Nat) (v2 : Nat → Int32), v9 = some (.int (nI u2)) ∧ ws9 = [(a 0, mO a v2), (a 7, aI G 60 f7)] ∧ nmP P 10 1 a0 = some (u2, a2) ∧ u2 < 100 ∧ v2 40 = nI 1 ∧ v2 39 = nI a2 ∧ FRM v v2) ∨ (∃ (v2 : Nat → Int32) (x : Int32), v9 = some (.int x) ∧ ws9 = [(a 0, mO a v2), (a 7, aI G 60 f7)] ∧ nmP P 10 1 a0 = none ∧ v2 40 = nI 0 ∧ v2 39 = nI a0 ∧ FRM v v2)) := by
  refine MT.of RX9 [(0, .ref (a 0)), (1, .int (nI 2))] (by decide +kernel) rfl rfl (Nat.le_of_ble_eq_true rfl) (fun κ C E hl9 hG9 hnm9 => ?_)
  subst hl9; subst hG9
  have hz9 := hw.1
  refine w_aload_n (nx := 1) C 0 dX9_number_0 rfl rfl rfl ?_
  refine w_bipush (nx := 3) C (nI 48) dX9_number_1 rfl (by decide) ?_
  refine w_bipush (nx := 5) C (nI 57) dX9_number_3 rfl (by decide) ?_
  refine w_callV (nx := 8) (wr := []) (rest := []) C mi_X9_takes (c_X9_takes_w _ _ a v f7 P a0 48 57 (by first | assumption | omega) (by first | assumption | omega) (by first | assumption | omega) (by first | assumption | omega) (by first | assumption | omega) (by first | assumption | omega) (by first | assumption | omega) (by first | assumption | omega)) 0 dX9_number_5 rfl wl_X9_246 rfl rfl rfl (pm_sel [0, 1] 2 (by decide +kernel) rfl rfl) rfl rfl (Nat.le_of_ble_eq_true rfl) (Nat.le_of_ble_eq_true rfl) (Nat.le_of_ble_eq_true rfl) (Nat.zero_le _) (Nat.zero_le _) (fun v9 w9 R_1 => ?_)
  rcases R_1 with ⟨vA, rfl, rfl, hA1, hA2, hA40, hA39, hAF⟩ | ⟨vN, xN, rfl, rfl, hN1, hN40, hN39, hNF⟩
  · show WW κ 0 0 [(a 0, mO a vA), (a 7, aI (kG κ) 60 f7)] 8 [(0, .ref (a 0)), (1, .int (nI 2))] [.int (nI (sg P a0 - 48))]
    refine w_istore_n (nx := 9) (lo2 := [(2, .int (nI (sg P a0 - 48))), (0, .ref (a 0)), (1, .int (nI 2))]) C dX9_number_8 rfl rfl (by decide) rfl ?_
    refine w_iconst (nx := 10) C (nI 1) dX9_number_9 rfl (by decide) ?_
    refine w_istore_n (nx := 11) (lo2 := [(3, .int (nI 1)), (2, .int (nI (sg P a0 - 48))), (0, .ref (a 0)), (1, .int (nI 2))]) C dX9_number_10 rfl rfl (by decide) rfl ?_
    have LP_2 : ∀ (N9_11 : Nat) (vv : Nat → Int32) (q : Nat) (u : Nat) (b : Nat), (nmP P 10 1 a0 = some (nmL P (2 - q) b u)) → (b ≤ P.1) → ((q = 1 ∧ u < 10) ∨ (q = 2 ∧ u < 100)) → (vv 40 = nI 1) → (vv 39 = nI b) → (vv 8 = nI P.1) → (FRM v vv) → (2 - q) < N9_11 → WW κ 0 0 [(a 0, mO a vv), (a 7, aI (kG κ) 60 f7)] 11 [(0, .ref (a 0)), (1, .int (nI 2)), (2, .int (nI u)), (3, .int (nI q))] [] := by
      intro N9_11
      induction N9_11 with
      | zero => intro vv q u b hq hb hv hv40 hv39 hv8 hvF hm9_11; exact absurd hm9_11 (Nat.not_lt_zero _)
      | succ N9_11 ih9_11 =>
        intro vv q u b hq hb hv hv40 hv39 hv8 hvF hm9_11
        refine w_iload_n (nx := 12) C 3 dX9_number_11 rfl rfl rfl ?_
        refine w_iload_n (nx := 13) C 1 dX9_number_12 rfl rfl rfl ?_
        refine n_icmp_ge (tg := 61) (nx := 16) C dX9_number_13 rfl rfl (by omega) (by omega) (fun h_3 => ?_) (fun h_3 => ?_)
        · have hst : 2 - q = 0 ∨ u = 0 ∨ ¬ (48 ≤ sg P b ∧ sg P b ≤ 57) := by omega
          refine w_iload_n (nx := 62) C 2 dX9_number_61 rfl rfl rfl ?_
          exact w_iret (ty := .int) C E dX9_number_62 rfl rfl (Nat.le_refl _) (Nat.le_refl _) (Or.inl ⟨u, b, vv, rfl, rfl, (hq.trans (congrArg some (nmL_stop hst))), (by omega), (hv40), (hv39), (hvF)⟩)
        · refine w_aload_n (nx := 17) C 0 dX9_number_16 rfl rfl rfl ?_
          refine w_getM (nx := 20) C (.int (vv 40)) 0 40 dX9_number_17 rfl wl_X9_239 rfl (by decide) rfl (mg_40 _ _) ?_
          refine w_top (nI 1) hv40 ?_
          refine w_if_eq (tg := 61) (nx := 23) C dX9_number_20 rfl rfl (fun q9 => absurd q9 (by decide)) (fun _ => ?_)
          refine w_iload_n (nx := 24) C 2 dX9_number_23 rfl rfl rfl ?_
          refine n_if_le (tg := 61) (nx := 27) C dX9_number_24 rfl rfl (by omega) (fun h_5 => ?_) (fun h_5 => ?_)
          · have hst : 2 - q = 0 ∨ u = 0 ∨ ¬ (48 ≤ sg P b ∧ sg P b ≤ 57) := by omega
            refine w_iload_n (nx := 62) C 2 dX9_number_61 rfl rfl rfl ?_
            exact w_iret (ty := .int) C E dX9_number_62 rfl rfl (Nat.le_refl _) (Nat.le_refl _) (Or.inl ⟨u, b, vv, rfl, rfl, (hq.trans (congrArg some (nmL_stop hst))), (by omega), (hv40), (hv39), (hvF)⟩)
          · have hsl := sg_le hw b
            refine w_aload_n (nx := 28) C 0 dX9_number_27 rfl rfl rfl ?_
            refine w_callV (nx := 31) (wr := []) (rest := []) C mi_X9_sign (c_X9_sign _ _ a vv f7 P b (hv8) (by first | assumption | omega) (by first | assumption | omega) (hv39) (by omega)) 0 dX9_number_28 rfl wl_X9_243 rfl rfl rfl (pm_sel [0, 1] 2 (by decide +kernel) rfl rfl) rfl rfl (Nat.le_of_ble_eq_true rfl) (Nat.le_of_ble_eq_true rfl) (Nat.le_of_ble_eq_true rfl) (Nat.zero_le _) (Nat.zero_le _) (fun v9 w9 R_6 => ?_)
            obtain ⟨rfl, rfl⟩ := R_6
            show WW κ 0 0 [(a 0, mO a vv), (a 7, aI (kG κ) 60 f7)] 31 [(0, .ref (a 0)), (1, .int (nI 2)), (2, .int (nI u)), (3, .int (nI q))] [.int (nI (sg P b))]
            refine w_bipush (nx := 33) C (nI 48) dX9_number_31 rfl (by decide) ?_
            refine w_bipush (nx := 35) C (nI 57) dX9_number_33 rfl (by decide) ?_
            refine w_callS (nx := 38) (wr := [(a 0, mO a vv), (a 7, aI (kG κ) 60 f7)]) (rest := []) C ms_X9_in (c_X9_in _ _ (nI (sg P b)) (nI 48) (nI 57)) dX9_number_35 rfl wl_X9_93 rfl (pm_sel [0, 1] 2 (by decide +kernel) rfl rfl) rfl rfl (Nat.le_of_ble_eq_true rfl) (Nat.le_of_ble_eq_true rfl) (Nat.le_of_ble_eq_true rfl) (Nat.zero_le _) (Nat.zero_le _) (fun v9 w9 R_7 => ?_)
            obtain ⟨rfl, rfl⟩ := R_7
            show WW κ 0 0 [(a 0, mO a vv), (a 7, aI (kG κ) 60 f7)] 38 [(0, .ref (a 0)), (1, .int (nI 2)), (2, .int (nI u)), (3, .int (nI q))] [.int (bC ((nI 48) ≤ (nI (sg P b)) ∧ (nI (sg P b)) ≤ (nI 57)))]
            refine b_if_eq (tg := 61) (nx := 41) C dX9_number_38 rfl rfl (fun h_8 => ?_) (fun h_8 => ?_)
            · have hst : 2 - q = 0 ∨ u = 0 ∨ ¬ (48 ≤ sg P b ∧ sg P b ≤ 57) := Or.inr (Or.inr (fun z => h_8 ⟨(nI_leI (by omega) (by omega)).mpr z.1, (nI_leI (by omega) (by omega)).mpr z.2⟩))
              refine w_iload_n (nx := 62) C 2 dX9_number_61 rfl rfl rfl ?_
              exact w_iret (ty := .int) C E dX9_number_62 rfl rfl (Nat.le_refl _) (Nat.le_refl _) (Or.inl ⟨u, b, vv, rfl, rfl, (hq.trans (congrArg some (nmL_stop hst))), (by omega), (hv40), (hv39), (hvF)⟩)
            · have hd1 := (nI_leI (by omega) (by omega)).mp h_8.1
              have hd2 := (nI_leI (by omega) (by omega)).mp h_8.2
              refine w_bipush (nx := 43) C (nI 10) dX9_number_41 rfl (by decide) ?_
              refine w_iload_n (nx := 44) C 2 dX9_number_43 rfl rfl rfl ?_
              refine w_imul (nx := 45) C (nI (10 * u)) dX9_number_44 rfl (pk_mul _ _) ?_
              refine w_aload_n (nx := 46) C 0 dX9_number_45 rfl rfl rfl ?_
              refine w_bipush (nx := 48) C (nI 48) dX9_number_46 rfl (by decide) ?_
              refine w_bipush (nx := 50) C (nI 57) dX9_number_48 rfl (by decide) ?_
              refine w_callV (nx := 53) (wr := []) (rest := [.int (nI (10 * u))]) C mi_X9_takes (c_X9_takes_w _ _ a vv f7 P b 48 57 (hv8) (by first | assumption | omega) (by first | assumption | omega) (hv39) (by omega) (by first | assumption | omega) (by first | assumption | omega) (hv40)) 0 dX9_number_50 rfl wl_X9_246 rfl rfl rfl (pm_sel [0, 1] 2 (by decide +kernel) rfl rfl) rfl rfl (Nat.le_of_ble_eq_true rfl) (Nat.le_of_ble_eq_true rfl) (Nat.le_of_ble_eq_true rfl) (Nat.zero_le _) (Nat.zero_le _) (fun v9 w9 R_9 => ?_)
              rcases R_9 with ⟨vB, rfl, rfl, hB1, hB2, hB40, hB39, hBF⟩ | ⟨vC, xC, rfl, rfl, hC1, hC40, hC39, hCF⟩
              · show WW κ 0 0 [(a 0, mO a vB), (a 7, aI (kG κ) 60 f7)] 53 [(0, .ref (a 0)), (1, .int (nI 2)), (2, .int (nI u)), (3, .int (nI q))] [.int (nI (sg P b - 48)), .int (nI (10 * u))]
                refine w_iadd (nx := 54) C (nI (10 * u + (sg P b - 48))) dX9_number_53 rfl (nI_add _ _) ?_
                refine w_istore_n (nx := 55) (lo2 := [(2, .int (nI (10 * u + (sg P b - 48)))), (0, .ref (a 0)), (1, .int (nI 2)), (3, .int (nI q))]) C dX9_number_54 rfl rfl (by decide) rfl ?_
                refine w_iinc (nx := 58) (lo2 := [(3, .int (nI (q + 1))), (2, .int (nI (10 * u + (sg P b - 48)))), (0, .ref (a 0)), (1, .int (nI 2))]) C (nI (q + 1)) 3 dX9_number_55 rfl rfl (nI_add _ _) (by decide) rfl ?_
                refine w_goto (nx := 11) C dX9_number_58 rfl ?_
                refine ww_lo [2, 3, 1, 0] (lo' := [(0, .ref (a 0)), (1, .int (nI 2)), (2, .int (nI (10 * u + (sg P b - 48)))), (3, .int (nI (q + 1)))]) rfl ?_
                exact ih9_11 vB (q + 1) (10 * u + (sg P b - 48)) (b + 1) (hq.trans (congrArg some ((nmL_go (by omega) (by omega) (by omega) (by omega)).trans (by rw [show 2 - q - 1 = 2 - (q + 1) by omega, show u * 10 + (sg P b - 48) = 10 * u + (sg P b - 48) by omega])))) (sg_lt (by omega)) (by omega) (hB40) (hB39) (hBF.2.1.trans hv8) (hvF.trans hBF) (by omega)
              · show WW κ 0 0 [(a 0, mO a vC), (a 7, aI (kG κ) 60 f7)] 53 [(0, .ref (a 0)), (1, .int (nI 2)), (2, .int (nI u)), (3, .int (nI q))] [.int xC, .int (nI (10 * u))]
                exact absurd ⟨hd1, hd2⟩ hC1
    refine ww_lo [2, 3, 1, 0] (lo' := [(0, .ref (a 0)), (1, .int (nI 2)), (2, .int (nI (sg P a0 - 48))), (3, .int (nI 1))]) rfl ?_
    exact LP_2 _ vA 1 (sg P a0 - 48) (a0 + 1) (nmP_some ⟨by omega, by omega⟩) (sg_lt (by omega)) (Or.inl ⟨rfl, by omega⟩) (hA40) (hA39) (hAF.2.1.trans h8) (hAF) (Nat.lt_succ_self _)
  · show WW κ 0 0 [(a 0, mO a vN), (a 7, aI (kG κ) 60 f7)] 8 [(0, .ref (a 0)), (1, .int (nI 2))] [.int xN]
    refine w_istore_n (nx := 9) (lo2 := [(2, .int xN), (0, .ref (a 0)), (1, .int (nI 2))]) C dX9_number_8 rfl rfl (by decide) rfl ?_
    refine w_iconst (nx := 10) C (nI 1) dX9_number_9 rfl (by decide) ?_
    refine w_istore_n (nx := 11) (lo2 := [(3, .int (nI 1)), (2, .int xN), (0, .ref (a 0)), (1, .int (nI 2))]) C dX9_number_10 rfl rfl (by decide) rfl ?_
    refine w_iload_n (nx := 12) C 0 dX9_number_11 rfl rfl rfl ?_
    refine w_iload_n (nx := 13) C 3 dX9_number_12 rfl rfl rfl ?_
    refine n_icmp_ge (tg := 61) (nx := 16) C dX9_number_13 rfl rfl (by decide) (by decide) (fun q9 => absurd q9 (by decide)) (fun _ => ?_)
    refine w_aload_n (nx := 17) C 2 dX9_number_16 rfl rfl rfl ?_
    refine w_getM (nx := 20) C (.int (vN 40)) 0 40 dX9_number_17 rfl wl_X9_239 rfl (by decide) rfl (mg_40 _ _) ?_
    refine w_top (nI 0) hN40 ?_
    refine w_if_eq (tg := 61) (nx := 23) C dX9_number_20 rfl rfl (fun _ => ?_) (fun q9 => absurd (by decide) q9)
    refine w_iload_n (nx := 62) C 1 dX9_number_61 rfl rfl rfl ?_
    exact w_iret (ty := .int) C E dX9_number_62 rfl rfl (Nat.le_refl _) (Nat.le_refl _) (Or.inr (⟨vN, xN, rfl, rfl, (nmP_none (by omega)), (hN40), (hN39), (hNF)⟩))
set_option maxHeartbeats 4000000 in
set_option maxRecDepth 100000 in
theorem c_X9_number_w3 (l : Launch) (G : GG) (a : Nat → Nat) (v : Nat → Int32) (f7 : Nat → Int32) (P : PD) (a0 : Nat) (h8 : v 8 = nI P.1) (hP : rP f7 P) (hw : wfP P) (h39 : v 39 = nI a0) (ha : a0 ≤ 60) (h40 : v 40 = nI 1) : MT l G yX9_number cX9_number 4 (some .int) 3 0 0 [.ref (a 0), .int (nI 3)] [(a 0, mO a v), (a 7, aI G 60 f7)] (fun v9 ws9 => (∃ (u2 : Nat) (a2 : Nat) (v2 : Nat → Int32), v9 = some (.int (nI u2)) ∧ ws9 = [(a 0, mO a v2), (a 7, aI G 60 f7)] ∧ nmP P 10 2 a0 = some (u2, a2) ∧ u2 < 1000 ∧ v2 40 = nI 1 ∧ v2 39 = nI a2 ∧ FRM v v2) ∨ (∃ (v2 : Nat → Int32) (x : Int32), v9 = some (.int x) ∧ ws9 = [(a 0, mO a v2), (a 7, aI G 60 f7)] ∧ nmP P 10 2 a0 = none ∧ v2 40 = nI 0 ∧ v2 39 = nI a0 ∧ FRM v v2)) := by
  refine MT.of RX9 [(0, .ref (a 0)), (1, .int (nI 3))] (by decide +kernel) rfl rfl (Nat.le_of_ble_eq_true rfl) (fun κ C E hl9 hG9 hnm9 => ?_)
  subst hl9; subst hG9
  have hz9 := hw.1
  refine w_aload_n (nx := 1) C 0 dX9_number_0 rfl rfl rfl ?_
  refine w_bipush (nx := 3) C (nI 48) dX9_number_1 rfl (by decide) ?_
  refine w_bipush (nx := 5) C (nI 57) dX9_number_3 rfl (by decide) ?_
  refine w_callV (nx := 8) (wr := []) (rest := []) C mi_X9_takes (c_X9_takes_w _ _ a v f7 P a0 48 57 (by first | assumption | omega) (by first | assumption | omega) (by first | assumption | omega) (by first | assumption | omega) (by first | assumption | omega) (by first | assumption | omega) (by first | assumption | omega) (by first | assumption | omega)) 0 dX9_number_5 rfl wl_X9_246 rfl rfl rfl (pm_sel [0, 1] 2 (by decide +kernel) rfl rfl) rfl rfl (Nat.le_of_ble_eq_true rfl) (Nat.le_of_ble_eq_true rfl) (Nat.le_of_ble_eq_true rfl) (Nat.zero_le _) (Nat.zero_le _) (fun v9 w9 R_1 => ?_)
  rcases R_1 with ⟨vA, rfl, rfl, hA1, hA2, hA40, hA39, hAF⟩ | ⟨vN, xN, rfl, rfl, hN1, hN40, hN39, hNF⟩
  · show WW κ 0 0 [(a 0, mO a vA), (a 7, aI (kG κ) 60 f7)] 8 [(0, .ref (a 0)), (1, .int (nI 3))] [.int (nI (sg P a0 - 48))]
    refine w_istore_n (nx := 9) (lo2 := [(2, .int (nI (sg P a0 - 48))), (0, .ref (a 0)), (1, .int (nI 3))]) C dX9_number_8 rfl rfl (by decide) rfl ?_
    refine w_iconst (nx := 10) C (nI 1) dX9_number_9 rfl (by decide) ?_
    refine w_istore_n (nx := 11) (lo2 := [(3, .int (nI 1)), (2, .int (nI (sg P a0 - 48))), (0, .ref (a 0)), (1, .int (nI 3))]) C dX9_number_10 rfl rfl (by decide) rfl ?_
    have LP_2 : ∀ (N9_11 : Nat) (vv : Nat → Int32) (q : Nat) (u : Nat) (b : Nat), (nmP P 10 2 a0 = some (nmL P (3 - q) b u)) → (b ≤ P.1) → ((q = 1 ∧ u < 10) ∨ (q = 2 ∧ u < 100) ∨ (q = 3 ∧ u < 1000)) → (vv 40 = nI 1) → (vv 39 = nI b) → (vv 8 = nI P.1) → (FRM v vv) → (3 - q) < N9_11 → WW κ 0 0 [(a 0, mO a vv), (a 7, aI (kG κ) 60 f7)] 11 [(0, .ref (a 0)), (1, .int (nI 3)), (2, .int (nI u)), (3, .int (nI q))] [] := by
      intro N9_11
      induction N9_11 with
      | zero => intro vv q u b hq hb hv hv40 hv39 hv8 hvF hm9_11; exact absurd hm9_11 (Nat.not_lt_zero _)
      | succ N9_11 ih9_11 =>
        intro vv q u b hq hb hv hv40 hv39 hv8 hvF hm9_11
        refine w_iload_n (nx := 12) C 3 dX9_number_11 rfl rfl rfl ?_
        refine w_iload_n (nx := 13) C 1 dX9_number_12 rfl rfl rfl ?_
        refine n_icmp_ge (tg := 61) (nx := 16) C dX9_number_13 rfl rfl (by omega) (by omega) (fun h_3 => ?_) (fun h_3 => ?_)
        · have hst : 3 - q = 0 ∨ u = 0 ∨ ¬ (48 ≤ sg P b ∧ sg P b ≤ 57) := by omega
          refine w_iload_n (nx := 62) C 2 dX9_number_61 rfl rfl rfl ?_
          exact w_iret (ty := .int) C E dX9_number_62 rfl rfl (Nat.le_refl _) (Nat.le_refl _) (Or.inl ⟨u, b, vv, rfl, rfl, (hq.trans (congrArg some (nmL_stop hst))), (by omega), (hv40), (hv39), (hvF)⟩)
        · refine w_aload_n (nx := 17) C 0 dX9_number_16 rfl rfl rfl ?_
          refine w_getM (nx := 20) C (.int (vv 40)) 0 40 dX9_number_17 rfl wl_X9_239 rfl (by decide) rfl (mg_40 _ _) ?_
          refine w_top (nI 1) hv40 ?_
          refine w_if_eq (tg := 61) (nx := 23) C dX9_number_20 rfl rfl (fun q9 => absurd q9 (by decide)) (fun _ => ?_)
          refine w_iload_n (nx := 24) C 2 dX9_number_23 rfl rfl rfl ?_
          refine n_if_le (tg := 61) (nx := 27) C dX9_number_24 rfl rfl (by omega) (fun h_5 => ?_) (fun h_5 => ?_)
          · have hst : 3 - q = 0 ∨ u = 0 ∨ ¬ (48 ≤ sg P b ∧ sg P b ≤ 57) := by omega
            refine w_iload_n (nx := 62) C 2 dX9_number_61 rfl rfl rfl ?_
            exact w_iret (ty := .int) C E dX9_number_62 rfl rfl (Nat.le_refl _) (Nat.le_refl _) (Or.inl ⟨u, b, vv, rfl, rfl, (hq.trans (congrArg some (nmL_stop hst))), (by omega), (hv40), (hv39), (hvF)⟩)
          · have hsl := sg_le hw b
            refine w_aload_n (nx := 28) C 0 dX9_number_27 rfl rfl rfl ?_
            refine w_callV (nx := 31) (wr := []) (rest := []) C mi_X9_sign (c_X9_sign _ _ a vv f7 P b (hv8) (by first | assumption | omega) (by first | assumption | omega) (hv39) (by omega)) 0 dX9_number_28 rfl wl_X9_243 rfl rfl rfl (pm_sel [0, 1] 2 (by decide +kernel) rfl rfl) rfl rfl (Nat.le_of_ble_eq_true rfl) (Nat.le_of_ble_eq_true rfl) (Nat.le_of_ble_eq_true rfl) (Nat.zero_le _) (Nat.zero_le _) (fun v9 w9 R_6 => ?_)
            obtain ⟨rfl, rfl⟩ := R_6
            show WW κ 0 0 [(a 0, mO a vv), (a 7, aI (kG κ) 60 f7)] 31 [(0, .ref (a 0)), (1, .int (nI 3)), (2, .int (nI u)), (3, .int (nI q))] [.int (nI (sg P b))]
            refine w_bipush (nx := 33) C (nI 48) dX9_number_31 rfl (by decide) ?_
            refine w_bipush (nx := 35) C (nI 57) dX9_number_33 rfl (by decide) ?_
            refine w_callS (nx := 38) (wr := [(a 0, mO a vv), (a 7, aI (kG κ) 60 f7)]) (rest := []) C ms_X9_in (c_X9_in _ _ (nI (sg P b)) (nI 48) (nI 57)) dX9_number_35 rfl wl_X9_93 rfl (pm_sel [0, 1] 2 (by decide +kernel) rfl rfl) rfl rfl (Nat.le_of_ble_eq_true rfl) (Nat.le_of_ble_eq_true rfl) (Nat.le_of_ble_eq_true rfl) (Nat.zero_le _) (Nat.zero_le _) (fun v9 w9 R_7 => ?_)
            obtain ⟨rfl, rfl⟩ := R_7
            show WW κ 0 0 [(a 0, mO a vv), (a 7, aI (kG κ) 60 f7)] 38 [(0, .ref (a 0)), (1, .int (nI 3)), (2, .int (nI u)), (3, .int (nI q))] [.int (bC ((nI 48) ≤ (nI (sg P b)) ∧ (nI (sg P b)) ≤ (nI 57)))]
            refine b_if_eq (tg := 61) (nx := 41) C dX9_number_38 rfl rfl (fun h_8 => ?_) (fun h_8 => ?_)
            · have hst : 3 - q = 0 ∨ u = 0 ∨ ¬ (48 ≤ sg P b ∧ sg P b ≤ 57) := Or.inr (Or.inr (fun z => h_8 ⟨(nI_leI (by omega) (by omega)).mpr z.1, (nI_leI (by omega) (by omega)).mpr z.2⟩))
              refine w_iload_n (nx := 62) C 2 dX9_number_61 rfl rfl rfl ?_
              exact w_iret (ty := .int) C E dX9_number_62 rfl rfl (Nat.le_refl _) (Nat.le_refl _) (Or.inl ⟨u, b, vv, rfl, rfl, (hq.trans (congrArg some (nmL_stop hst))), (by omega), (hv40), (hv39), (hvF)⟩)
            · have hd1 := (nI_leI (by omega) (by omega)).mp h_8.1
              have hd2 := (nI_leI (by omega) (by omega)).mp h_8.2
              refine w_bipush (nx := 43) C (nI 10) dX9_number_41 rfl (by decide) ?_
              refine w_iload_n (nx := 44) C 2 dX9_number_43 rfl rfl rfl ?_
              refine w_imul (nx := 45) C (nI (10 * u)) dX9_number_44 rfl (pk_mul _ _) ?_
              refine w_aload_n (nx := 46) C 0 dX9_number_45 rfl rfl rfl ?_
              refine w_bipush (nx := 48) C (nI 48) dX9_number_46 rfl (by decide) ?_
              refine w_bipush (nx := 50) C (nI 57) dX9_number_48 rfl (by decide) ?_
              refine w_callV (nx := 53) (wr := []) (rest := [.int (nI (10 * u))]) C mi_X9_takes (c_X9_takes_w _ _ a vv f7 P b 48 57 (hv8) (by first | assumption | omega) (by first | assumption | omega) (hv39) (by omega) (by first | assumption | omega) (by first | assumption | omega) (hv40)) 0 dX9_number_50 rfl wl_X9_246 rfl rfl rfl (pm_sel [0, 1] 2 (by decide +kernel) rfl rfl) rfl rfl (Nat.le_of_ble_eq_true rfl) (Nat.le_of_ble_eq_true rfl) (Nat.le_of_ble_eq_true rfl) (Nat.zero_le _) (Nat.zero_le _) (fun v9 w9 R_9 => ?_)
              rcases R_9 with ⟨vB, rfl, rfl, hB1, hB2, hB40, hB39, hBF⟩ | ⟨vC, xC, rfl, rfl, hC1, hC40, hC39, hCF⟩
              · show WW κ 0 0 [(a 0, mO a vB), (a 7, aI (kG κ) 60 f7)] 53 [(0, .ref (a 0)), (1, .int (nI 3)), (2, .int (nI u)), (3, .int (nI q))] [.int (nI (sg P b - 48)), .int (nI (10 * u))]
                refine w_iadd (nx := 54) C (nI (10 * u + (sg P b - 48))) dX9_number_53 rfl (nI_add _ _) ?_
                refine w_istore_n (nx := 55) (lo2 := [(2, .int (nI (10 * u + (sg P b - 48)))), (0, .ref (a 0)), (1, .int (nI 3)), (3, .int (nI q))]) C dX9_number_54 rfl rfl (by decide) rfl ?_
                refine w_iinc (nx := 58) (lo2 := [(3, .int (nI (q + 1))), (2, .int (nI (10 * u + (sg P b - 48)))), (0, .ref (a 0)), (1, .int (nI 3))]) C (nI (q + 1)) 3 dX9_number_55 rfl rfl (nI_add _ _) (by decide) rfl ?_
                refine w_goto (nx := 11) C dX9_number_58 rfl ?_
                refine ww_lo [2, 3, 1, 0] (lo' := [(0, .ref (a 0)), (1, .int (nI 3)), (2, .int (nI (10 * u + (sg P b - 48)))), (3, .int (nI (q + 1)))]) rfl ?_
                exact ih9_11 vB (q + 1) (10 * u + (sg P b - 48)) (b + 1) (hq.trans (congrArg some ((nmL_go (by omega) (by omega) (by omega) (by omega)).trans (by rw [show 3 - q - 1 = 3 - (q + 1) by omega, show u * 10 + (sg P b - 48) = 10 * u + (sg P b - 48) by omega])))) (sg_lt (by omega)) (by omega) (hB40) (hB39) (hBF.2.1.trans hv8) (hvF.trans hBF) (by omega)
              · show WW κ 0 0 [(a 0, mO a vC), (a 7, aI (kG κ) 60 f7)] 53 [(0, .ref (a 0)), (1, .int (nI 3)), (2, .int (nI u)), (3, .int (nI q))] [.int xC, .int (nI (10 * u))]
                exact absurd ⟨hd1, hd2⟩ hC1
    refine ww_lo [2, 3, 1, 0] (lo' := [(0, .ref (a 0)), (1, .int (nI 3)), (2, .int (nI (sg P a0 - 48))), (3, .int (nI 1))]) rfl ?_
    exact LP_2 _ vA 1 (sg P a0 - 48) (a0 + 1) (nmP_some ⟨by omega, by omega⟩) (sg_lt (by omega)) (Or.inl ⟨rfl, by omega⟩) (hA40) (hA39) (hAF.2.1.trans h8) (hAF) (Nat.lt_succ_self _)
  · show WW κ 0 0 [(a 0, mO a vN), (a 7, aI (kG κ) 60 f7)] 8 [(0, .ref (a 0)), (1, .int (nI 3))] [.int xN]
    refine w_istore_n (nx := 9) (lo2 := [(2, .int xN), (0, .ref (a 0)), (1, .int (nI 3))]) C dX9_number_8 rfl rfl (by decide) rfl ?_
    refine w_iconst (nx := 10) C (nI 1) dX9_number_9 rfl (by decide) ?_
    refine w_istore_n (nx := 11) (lo2 := [(3, .int (nI 1)), (2, .int xN), (0, .ref (a 0)), (1, .int (nI 3))]) C dX9_number_10 rfl rfl (by decide) rfl ?_
    refine w_iload_n (nx := 12) C 0 dX9_number_11 rfl rfl rfl ?_
    refine w_iload_n (nx := 13) C 3 dX9_number_12 rfl rfl rfl ?_
    refine n_icmp_ge (tg := 61) (nx := 16) C dX9_number_13 rfl rfl (by decide) (by decide) (fun q9 => absurd q9 (by decide)) (fun _ => ?_)
    refine w_aload_n (nx := 17) C 2 dX9_number_16 rfl rfl rfl ?_
    refine w_getM (nx := 20) C (.int (vN 40)) 0 40 dX9_number_17 rfl wl_X9_239 rfl (by decide) rfl (mg_40 _ _) ?_
    refine w_top (nI 0) hN40 ?_
    refine w_if_eq (tg := 61) (nx := 23) C dX9_number_20 rfl rfl (fun _ => ?_) (fun q9 => absurd (by decide) q9)
    refine w_iload_n (nx := 62) C 1 dX9_number_61 rfl rfl rfl ?_
    exact w_iret (ty := .int) C E dX9_number_62 rfl rfl (Nat.le_refl _) (Nat.le_refl _) (Or.inr (⟨vN, xN, rfl, rfl, (nmP_none (by omega)), (hN40), (hN39), (hNF)⟩))
set_option maxHeartbeats 4000000 in
set_option maxRecDepth 100000 in
theorem c_X9_number_n (l : Launch) (G : GG) (a : Nat → Nat) (v : Nat → Int32) (f7 : Nat → Int32) (P : PD) (a0 : Nat) (dg : Nat) (h8 : v 8 = nI P.1) (hP : rP f7 P) (hw : wfP P) (h39 : v 39 = nI a0) (ha : a0 ≤ 60) (h40 : v 40 = nI 0) (hdg : 2 ≤ dg) (hdg2 : dg < 9) : MT l G yX9_number cX9_number 4 (some .int) 3 0 0 [.ref (a 0), .int (nI dg)] [(a 0, mO a v), (a 7, aI G 60 f7)] (fun v9 ws9 => ∃ (v2 : Nat → Int32) (x : Int32), v9 = some (.int x) ∧ ws9 = [(a 0, mO a v2), (a 7, aI G 60 f7)] ∧ v2 40 = nI 0 ∧ v2 39 = nI a0 ∧ FRM v v2) := by
  refine MT.of RX9 [(0, .ref (a 0)), (1, .int (nI dg))] (by decide +kernel) rfl rfl (Nat.le_of_ble_eq_true rfl) (fun κ C E hl9 hG9 hnm9 => ?_)
  subst hl9; subst hG9
  refine w_aload_n (nx := 1) C 0 dX9_number_0 rfl rfl rfl ?_
  refine w_bipush (nx := 3) C (nI 48) dX9_number_1 rfl (by decide) ?_
  refine w_bipush (nx := 5) C (nI 57) dX9_number_3 rfl (by decide) ?_
  refine w_callV (nx := 8) (wr := []) (rest := []) C mi_X9_takes (c_X9_takes_n _ _ a v f7 P a0 48 57 (by first | assumption | omega) (by first | assumption | omega) (by first | assumption | omega) (by first | assumption | omega) (by first | assumption | omega) (by first | assumption | omega) (by first | assumption | omega) (by first | assumption | omega)) 0 dX9_number_5 rfl wl_X9_246 rfl rfl rfl (pm_sel [0, 1] 2 (by decide +kernel) rfl rfl) rfl rfl (Nat.le_of_ble_eq_true rfl) (Nat.le_of_ble_eq_true rfl) (Nat.le_of_ble_eq_true rfl) (Nat.zero_le _) (Nat.zero_le _) (fun v9 w9 R_1 => ?_)
  obtain ⟨vN, xN, rfl, rfl, hN40, hN39, hNF⟩ := R_1
  show WW κ 0 0 [(a 0, mO a vN), (a 7, aI (kG κ) 60 f7)] 8 [(0, .ref (a 0)), (1, .int (nI dg))] [.int xN]
  refine w_istore_n (nx := 9) (lo2 := [(2, .int xN), (0, .ref (a 0)), (1, .int (nI dg))]) C dX9_number_8 rfl rfl (by decide) rfl ?_
  refine w_iconst (nx := 10) C (nI 1) dX9_number_9 rfl (by decide) ?_
  refine w_istore_n (nx := 11) (lo2 := [(3, .int (nI 1)), (2, .int xN), (0, .ref (a 0)), (1, .int (nI dg))]) C dX9_number_10 rfl rfl (by decide) rfl ?_
  refine w_iload_n (nx := 12) C 0 dX9_number_11 rfl rfl rfl ?_
  refine w_iload_n (nx := 13) C 3 dX9_number_12 rfl rfl rfl ?_
  refine n_icmp_ge (tg := 61) (nx := 16) C dX9_number_13 rfl rfl (by omega) (by omega) (fun h_2 => ?_) (fun h_2 => ?_)
  · exfalso; omega
  · refine w_aload_n (nx := 17) C 2 dX9_number_16 rfl rfl rfl ?_
    refine w_getM (nx := 20) C (.int (vN 40)) 0 40 dX9_number_17 rfl wl_X9_239 rfl (by decide) rfl (mg_40 _ _) ?_
    refine w_top (nI 0) hN40 ?_
    refine w_if_eq (tg := 61) (nx := 23) C dX9_number_20 rfl rfl (fun _ => ?_) (fun q9 => absurd (by decide) q9)
    refine w_iload_n (nx := 62) C 1 dX9_number_61 rfl rfl rfl ?_
    exact w_iret (ty := .int) C E dX9_number_62 rfl rfl (Nat.le_refl _) (Nat.le_refl _) ⟨_, _, rfl, rfl, (hN40), (hN39), (hNF)⟩
