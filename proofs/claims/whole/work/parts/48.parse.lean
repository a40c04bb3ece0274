set_option maxHeartbeats 4000000 in
set_option maxRecDepth 100000 in
theorem c_X9_readsStatement (l : Launch) (G : GG) (a : Nat → Nat) (v : Nat → Int32) (f7 : Nat → Int32) (f41 : Nat → Int32) (P : PD) (a0 : Nat) (lq : SQ) (h8 : v 8 = nI P.1) (hP : rP f7 P) (hw : wfP P) (h39 : v 39 = nI a0) (ha : a0 ≤ 60) (h40 : v 40 = nI 1) (h42 : v 42 = nI lq.1) (hQ : rQ f41 lq) (hl : lq.1 < 13) : MT l G yX9_readsStatement cX9_readsStatement 6 none 4 0 0 [.ref (a 0)] [(a 0, mO a v), (a 7, aI G 60 f7), (a 41, aI G 64 f41)] (fun v9 ws9 => (∃ (x : ST4) (a2 : Nat) (v2 : Nat → Int32) (g41 : Nat → Int32), v9 = none ∧ ws9 = [(a 0, mO a v2), (a 7, aI G 60 f7), (a 41, aI G 64 g41)] ∧ stmP P a0 = (a2, some x) ∧ v2 40 = nI 1 ∧ v2 39 = nI a2 ∧ v2 42 = nI (psh lq x).1 ∧ FR3 v v2 ∧ rQ g41 (psh lq x)) ∨ (∃ (a2 : Nat) (v2 : Nat → Int32), v9 = none ∧ ws9 = [(a 0, mO a v2), (a 7, aI G 60 f7), (a 41, aI G 64 f41)] ∧ stmP P a0 = (a2, none) ∧ v2 40 = nI 0 ∧ v2 39 = nI a2 ∧ FR3 v v2)) := by
  refine MT.of RX9 [(0, .ref (a 0))] (by decide +kernel) rfl rfl (Nat.le_of_ble_eq_true rfl) (fun κ C E hl9 hG9 hnm9 => ?_)
  subst hl9; subst hG9
  have hz9 := hw.1
  have hsl := sg_le hw a0
  refine w_aload_n (nx := 1) C 0 dX9_readsStatement_0 rfl rfl rfl ?_
  refine w_callV (nx := 4) (wr := [(a 41, aI (kG κ) 64 f41)]) (rest := []) C mi_X9_sign (c_X9_sign _ _ a v f7 P a0 (h8) (by first | assumption | omega) (by first | assumption | omega) (h39) (by first | assumption | omega)) 0 dX9_readsStatement_1 rfl wl_X9_243 rfl rfl rfl (pm_sel [0, 1, 2] 3 (by decide +kernel) rfl rfl) rfl rfl (Nat.le_of_ble_eq_true rfl) (Nat.le_of_ble_eq_true rfl) (Nat.le_of_ble_eq_true rfl) (Nat.zero_le _) (Nat.zero_le _) (fun v9 w9 R_1 => ?_)
  obtain ⟨rfl, rfl⟩ := R_1
  show WW κ 0 0 [(a 0, mO a v), (a 7, aI (kG κ) 60 f7), (a 41, aI (kG κ) 64 f41)] 4 [(0, .ref (a 0))] [.int (nI (sg P a0))]
  refine w_istore_n (nx := 5) (lo2 := [(1, .int (nI (sg P a0))), (0, .ref (a 0))]) C dX9_readsStatement_4 rfl rfl (by decide) rfl ?_
  refine w_aload_n (nx := 6) C 1 dX9_readsStatement_5 rfl rfl rfl ?_
  refine w_aload_n (nx := 7) C 1 dX9_readsStatement_6 rfl rfl rfl ?_
  refine w_getM (nx := 10) C (.int (v 40)) 0 40 dX9_readsStatement_7 rfl wl_X9_239 rfl (by decide) rfl (mg_40 _ _) ?_
  refine w_top (nI 1) h40 ?_
  refine w_if_eq (tg := 35) (nx := 13) C dX9_readsStatement_10 rfl rfl (fun q9 => absurd q9 (by decide)) (fun _ => ?_)
  refine w_iload_n (nx := 14) C 0 dX9_readsStatement_13 rfl rfl rfl ?_
  refine w_bipush (nx := 16) C (nI 108) dX9_readsStatement_14 rfl (by decide) ?_
  refine n_icmp_eq (tg := 31) (nx := 19) C dX9_readsStatement_16 rfl rfl (by omega) (by omega) (fun h_3 => ?_) (fun h_3 => ?_)
  · have hlt : sg P a0 = 108 := by omega
    have gL0 : a0 + 1 ≤ P.1 := sg_lt (P := P) (a := a0) (by omega)
    refine w_iconst (nx := 32) C (nI 1) dX9_readsStatement_31 rfl (by decide) ?_
    refine w_goto (nx := 36) C dX9_readsStatement_32 rfl ?_
    refine w_putM (nx := 39) (ws2 := [(a 0, mO a (upd v 40 (nI 1))), (a 7, aI (kG κ) 60 f7), (a 41, aI (kG κ) 64 f41)]) C 0 40 dX9_readsStatement_36 rfl wl_X9_239 rfl (by decide) rfl rfl rfl (ms_40 _ _ _) rfl ?_
    refine w_aload_n (nx := 40) C 1 dX9_readsStatement_39 rfl rfl rfl ?_
    refine w_dup (nx := 41) C dX9_readsStatement_40 rfl rfl ?_
    refine w_getM (nx := 44) C (.int (v 39)) 0 39 dX9_readsStatement_41 rfl wl_X9_236 rfl (by decide) rfl (mg_39 _ _) ?_
    refine w_top (nI a0) h39 ?_
    refine w_aload_n (nx := 45) C 1 dX9_readsStatement_44 rfl rfl rfl ?_
    refine w_getM (nx := 48) C (.int (nI 1)) 0 40 dX9_readsStatement_45 rfl wl_X9_239 rfl (by decide) rfl (mg_40 _ _) ?_
    refine w_if_eq (tg := 55) (nx := 51) C dX9_readsStatement_48 rfl rfl (fun q9 => absurd q9 (by decide)) (fun _ => ?_)
    refine w_iconst (nx := 52) C (nI 1) dX9_readsStatement_51 rfl (by decide) ?_
    refine w_goto (nx := 56) C dX9_readsStatement_52 rfl ?_
    refine w_iadd (nx := 57) C (nI (a0 + 1)) dX9_readsStatement_56 rfl (nI_add _ _) ?_
    refine w_putM (nx := 60) (ws2 := [(a 0, mO a (upd (upd v 40 (nI 1)) 39 (nI (a0 + 1)))), (a 7, aI (kG κ) 60 f7), (a 41, aI (kG κ) 64 f41)]) C 0 39 dX9_readsStatement_57 rfl wl_X9_236 rfl (by decide) rfl rfl rfl (ms_39 _ _ _) rfl ?_
    refine w_aload_n (nx := 61) C 1 dX9_readsStatement_60 rfl rfl rfl ?_
    refine w_bipush (nx := 63) C (nI 48) dX9_readsStatement_61 rfl (by decide) ?_
    refine w_bipush (nx := 65) C (nI 51) dX9_readsStatement_63 rfl (by decide) ?_
    refine w_callV (nx := 68) (wr := [(a 41, aI (kG κ) 64 f41)]) (rest := []) C mi_X9_takes (c_X9_takes_w _ _ a (upd (upd v 40 (nI 1)) 39 (nI (a0 + 1))) f7 P (a0 + 1) 48 51 ((by first | assumption | exact h8 | rfl)) (by first | assumption | omega) (by first | assumption | omega) ((by first | assumption | rfl)) ((by omega)) (by first | assumption | omega) (by first | assumption | omega) ((by first | assumption | rfl))) 0 dX9_readsStatement_65 rfl wl_X9_246 rfl rfl rfl (pm_sel [0, 1, 2] 3 (by decide +kernel) rfl rfl) rfl rfl (Nat.le_of_ble_eq_true rfl) (Nat.le_of_ble_eq_true rfl) (Nat.le_of_ble_eq_true rfl) (Nat.zero_le _) (Nat.zero_le _) (fun v9 w9 R_5 => ?_)
    rcases R_5 with ⟨vW65, rfl, rfl, gW65, gV65, gA65, gB65, gF65⟩ | ⟨vX65, x65, rfl, rfl, gX65, gA65, gB65, gF65⟩
    · show WW κ 0 0 [(a 0, mO a vW65), (a 7, aI (kG κ) 60 f7), (a 41, aI (kG κ) 64 f41)] 68 [(1, .int (nI (sg P a0))), (0, .ref (a 0))] [.int (nI (sg P (a0 + 1) - 48))]
      have gG65 : FRM v vW65 := FRM.trans (w := _) ⟨rfl, rfl, rfl, rfl⟩ gF65
      have g865 := gG65.2.1.trans h8
      have gC65 := gG65.2.2.2.trans h42
      have gL65 : (a0 + 1 + 1) ≤ P.1 := sg_lt (P := P) (a := a0 + 1) (by omega)
      have nmt : nmP P 4 0 (a0 + 1) = some (sg P (a0 + 1) - 48, a0 + 1 + 1) := nmP_some ⟨by omega, by omega⟩
      refine w_istore_n (nx := 69) (lo2 := [(2, .int (nI (sg P (a0 + 1) - 48))), (1, .int (nI (sg P a0))), (0, .ref (a 0))]) C dX9_readsStatement_68 rfl rfl (by decide) rfl ?_
      refine w_aload_n (nx := 70) C 2 dX9_readsStatement_69 rfl rfl rfl ?_
      refine w_bipush (nx := 72) C (nI 46) dX9_readsStatement_70 rfl (by decide) ?_
      refine w_bipush (nx := 74) C (nI 46) dX9_readsStatement_72 rfl (by decide) ?_
      refine w_callV (nx := 77) (wr := [(a 41, aI (kG κ) 64 f41)]) (rest := []) C mi_X9_takes (c_X9_takes_w _ _ a vW65 f7 P (a0 + 1 + 1) 46 46 ((by first | assumption | exact h8 | rfl)) (by first | assumption | omega) (by first | assumption | omega) ((by first | assumption | rfl)) ((by omega)) (by first | assumption | omega) (by first | assumption | omega) ((by first | assumption | rfl))) 0 dX9_readsStatement_74 rfl wl_X9_246 rfl rfl rfl (pm_sel [0, 1, 2] 3 (by decide +kernel) rfl rfl) rfl rfl (Nat.le_of_ble_eq_true rfl) (Nat.le_of_ble_eq_true rfl) (Nat.le_of_ble_eq_true rfl) (Nat.zero_le _) (Nat.zero_le _) (fun v9 w9 R_6 => ?_)
      rcases R_6 with ⟨vW74, rfl, rfl, gW74, gV74, gA74, gB74, gF74⟩ | ⟨vX74, x74, rfl, rfl, gX74, gA74, gB74, gF74⟩
      · show WW κ 0 0 [(a 0, mO a vW74), (a 7, aI (kG κ) 60 f7), (a 41, aI (kG κ) 64 f41)] 77 [(2, .int (nI (sg P (a0 + 1) - 48))), (1, .int (nI (sg P a0))), (0, .ref (a 0))] [.int (nI (sg P (a0 + 1 + 1) - 46))]
        have gG74 : FRM v vW74 := gG65.trans gF74
        have g874 := gG74.2.1.trans h8
        have gC74 := gG74.2.2.2.trans h42
        have gL74 : (a0 + 1 + 1 + 1) ≤ P.1 := sg_lt (P := P) (a := a0 + 1 + 1) (by omega)
        refine w_pop (nx := 78) C dX9_readsStatement_77 rfl rfl ?_
        refine w_aload_n (nx := 79) C 2 dX9_readsStatement_78 rfl rfl rfl ?_
        refine w_iconst (nx := 80) C (nI 2) dX9_readsStatement_79 rfl (by decide) ?_
        refine w_callV (nx := 83) (wr := [(a 41, aI (kG κ) 64 f41)]) (rest := []) C mi_X9_number (c_X9_number_w2 _ _ a vW74 f7 P (a0 + 1 + 1 + 1) ((by first | assumption | exact h8 | rfl)) (by first | assumption | omega) (by first | assumption | omega) ((by first | assumption | rfl)) ((by omega)) ((by first | assumption | rfl))) 0 dX9_readsStatement_80 rfl wl_X9_249 rfl rfl rfl (pm_sel [0, 1, 2] 3 (by decide +kernel) rfl rfl) rfl rfl (Nat.le_of_ble_eq_true rfl) (Nat.le_of_ble_eq_true rfl) (Nat.le_of_ble_eq_true rfl) (Nat.zero_le _) (Nat.zero_le _) (fun v9 w9 R_7 => ?_)
        rcases R_7 with ⟨u80, p80, vW80, rfl, rfl, gW80, gV80, gA80, gB80, gF80⟩ | ⟨vX80, x80, rfl, rfl, gX80, gA80, gB80, gF80⟩
        · show WW κ 0 0 [(a 0, mO a vW80), (a 7, aI (kG κ) 60 f7), (a 41, aI (kG κ) 64 f41)] 83 [(2, .int (nI (sg P (a0 + 1) - 48))), (1, .int (nI (sg P a0))), (0, .ref (a 0))] [.int (nI u80)]
          have gG80 : FRM v vW80 := gG74.trans gF80
          have g880 := gG80.2.1.trans h8
          have gC80 := gG80.2.2.2.trans h42
          have gL80 := nmP_le gW80
          refine w_istore_n (nx := 84) (lo2 := [(3, .int (nI u80)), (2, .int (nI (sg P (a0 + 1) - 48))), (1, .int (nI (sg P a0))), (0, .ref (a 0))]) C dX9_readsStatement_83 rfl rfl (by decide) rfl ?_
          refine w_iconst (nx := 85) C (nI 0) dX9_readsStatement_84 rfl (by decide) ?_
          refine w_istore (nx := 87) (lo2 := [(4, .int (nI 0)), (3, .int (nI u80)), (2, .int (nI (sg P (a0 + 1) - 48))), (1, .int (nI (sg P a0))), (0, .ref (a 0))]) C dX9_readsStatement_85 rfl (by decide) rfl ?_
          refine w_iload_n (nx := 88) C 3 dX9_readsStatement_87 rfl rfl rfl ?_
          refine w_bipush (nx := 90) C (nI 100) dX9_readsStatement_88 rfl (by decide) ?_
          refine n_icmp_eq (tg := 124) (nx := 93) C dX9_readsStatement_90 rfl rfl (by omega) (by omega) (fun h_8 => ?_) (fun h_8 => ?_)
          · exfalso; omega
          · refine w_iload_n (nx := 94) C 3 dX9_readsStatement_93 rfl rfl rfl ?_
            refine w_bipush (nx := 96) C (nI 108) dX9_readsStatement_94 rfl (by decide) ?_
            refine n_icmp_ne (tg := 104) (nx := 99) C dX9_readsStatement_96 rfl rfl (by omega) (by omega) (fun h_9 => ?_) (fun h_9 => ?_)
            · exfalso; omega
            · refine w_bipush (nx := 101) C (nI 61) dX9_readsStatement_99 rfl (by decide) ?_
              refine w_goto (nx := 106) C dX9_readsStatement_101 rfl ?_
              refine w_istore (nx := 108) (lo2 := [(5, .int (nI 61)), (4, .int (nI 0)), (3, .int (nI u80)), (2, .int (nI (sg P (a0 + 1) - 48))), (1, .int (nI (sg P a0))), (0, .ref (a 0))]) C dX9_readsStatement_106 rfl (by decide) rfl ?_
              refine w_aload_n (nx := 109) C 5 dX9_readsStatement_108 rfl rfl rfl ?_
              refine w_iload (nx := 111) C 0 dX9_readsStatement_109 rfl rfl ?_
              refine w_iload (nx := 113) C 0 dX9_readsStatement_111 rfl rfl ?_
              refine w_callV (nx := 116) (wr := [(a 41, aI (kG κ) 64 f41)]) (rest := []) C mi_X9_takes (c_X9_takes_w _ _ a vW80 f7 P p80 61 61 ((by first | assumption | exact h8 | rfl)) (by first | assumption | omega) (by first | assumption | omega) ((by first | assumption | rfl)) ((by omega)) (by first | assumption | omega) (by first | assumption | omega) ((by first | assumption | rfl))) 0 dX9_readsStatement_113 rfl wl_X9_246 rfl rfl rfl (pm_sel [0, 1, 2] 3 (by decide +kernel) rfl rfl) rfl rfl (Nat.le_of_ble_eq_true rfl) (Nat.le_of_ble_eq_true rfl) (Nat.le_of_ble_eq_true rfl) (Nat.zero_le _) (Nat.zero_le _) (fun v9 w9 R_10 => ?_)
              rcases R_10 with ⟨vW113, rfl, rfl, gW113, gV113, gA113, gB113, gF113⟩ | ⟨vX113, x113, rfl, rfl, gX113, gA113, gB113, gF113⟩
              · show WW κ 0 0 [(a 0, mO a vW113), (a 7, aI (kG κ) 60 f7), (a 41, aI (kG κ) 64 f41)] 116 [(5, .int (nI 61)), (4, .int (nI 0)), (3, .int (nI u80)), (2, .int (nI (sg P (a0 + 1) - 48))), (1, .int (nI (sg P a0))), (0, .ref (a 0))] [.int (nI (sg P p80 - 61))]
                have gG113 : FRM v vW113 := gG80.trans gF113
                have g8113 := gG113.2.1.trans h8
                have gC113 := gG113.2.2.2.trans h42
                have gL113 : (p80 + 1) ≤ P.1 := sg_lt (P := P) (a := p80) (by omega)
                refine w_pop (nx := 117) C dX9_readsStatement_116 rfl rfl ?_
                refine w_aload_n (nx := 118) C 5 dX9_readsStatement_117 rfl rfl rfl ?_
                refine w_iconst (nx := 119) C (nI 3) dX9_readsStatement_118 rfl (by decide) ?_
                refine w_callV (nx := 122) (wr := [(a 41, aI (kG κ) 64 f41)]) (rest := []) C mi_X9_number (c_X9_number_w3 _ _ a vW113 f7 P (p80 + 1) ((by first | assumption | exact h8 | rfl)) (by first | assumption | omega) (by first | assumption | omega) ((by first | assumption | rfl)) ((by omega)) ((by first | assumption | rfl))) 0 dX9_readsStatement_119 rfl wl_X9_249 rfl rfl rfl (pm_sel [0, 1, 2] 3 (by decide +kernel) rfl rfl) rfl rfl (Nat.le_of_ble_eq_true rfl) (Nat.le_of_ble_eq_true rfl) (Nat.le_of_ble_eq_true rfl) (Nat.zero_le _) (Nat.zero_le _) (fun v9 w9 R_11 => ?_)
                rcases R_11 with ⟨u119, p119, vW119, rfl, rfl, gW119, gV119, gA119, gB119, gF119⟩ | ⟨vX119, x119, rfl, rfl, gX119, gA119, gB119, gF119⟩
                · show WW κ 0 0 [(a 0, mO a vW119), (a 7, aI (kG κ) 60 f7), (a 41, aI (kG κ) 64 f41)] 122 [(5, .int (nI 61)), (4, .int (nI 0)), (3, .int (nI u80)), (2, .int (nI (sg P (a0 + 1) - 48))), (1, .int (nI (sg P a0))), (0, .ref (a 0))] [.int (nI u119)]
                  have gG119 : FRM v vW119 := gG113.trans gF119
                  have g8119 := gG119.2.1.trans h8
                  have gC119 := gG119.2.2.2.trans h42
                  have gL119 := nmP_le gW119
                  refine w_istore (nx := 124) (lo2 := [(4, .int (nI u119)), (5, .int (nI 61)), (3, .int (nI u80)), (2, .int (nI (sg P (a0 + 1) - 48))), (1, .int (nI (sg P a0))), (0, .ref (a 0))]) C dX9_readsStatement_122 rfl (by decide) rfl ?_
                  refine w_aload_n (nx := 125) C 5 dX9_readsStatement_124 rfl rfl rfl ?_
                  refine w_getM (nx := 128) C (.int (vW119 40)) 0 40 dX9_readsStatement_125 rfl wl_X9_239 rfl (by decide) rfl (mg_40 _ _) ?_
                  refine w_top (nI 1) gA119 ?_
                  refine w_if_eq (tg := 216) (nx := 131) C dX9_readsStatement_128 rfl rfl (fun q9 => absurd q9 (by decide)) (fun _ => ?_)
                  refine w_aload_n (nx := 132) C 5 dX9_readsStatement_131 rfl rfl rfl ?_
                  refine w_getM (nx := 135) C (.ref (a 41)) 0 41 dX9_readsStatement_132 rfl wl_X9_87 rfl (by decide) rfl (mg_41 _ _) ?_
                  refine w_iconst (nx := 136) C (nI 4) dX9_readsStatement_135 rfl (by decide) ?_
                  refine w_aload_n (nx := 137) C 5 dX9_readsStatement_136 rfl rfl rfl ?_
                  refine w_getM (nx := 140) C (.int (vW119 42)) 0 42 dX9_readsStatement_137 rfl wl_X9_252 rfl (by decide) rfl (mg_42 _ _) ?_
                  refine w_top (nI lq.1) gC119 ?_
                  refine w_imul (nx := 141) C (nI (4 * lq.1)) dX9_readsStatement_140 rfl (pk_mul _ _) ?_
                  refine w_iload_n (nx := 142) C 4 dX9_readsStatement_141 rfl rfl rfl ?_
                  refine w_bipush (nx := 144) C (nI 108) dX9_readsStatement_142 rfl (by decide) ?_
                  refine n_icmp_ne (tg := 151) (nx := 147) C dX9_readsStatement_144 rfl rfl (by omega) (by omega) (fun h_13 => ?_) (fun h_13 => ?_)
                  · exfalso; omega
                  · refine w_iconst (nx := 148) C (nI 0) dX9_readsStatement_147 rfl (by decide) ?_
                    refine w_goto (nx := 162) C dX9_readsStatement_148 rfl ?_
                    refine w_iast (nx := 163) (ws2 := [(a 0, mO a vW119), (a 7, aI (kG κ) 60 f7), (a 41, aI (kG κ) 64 (upd f41 (4 * lq.1) (nI 0)))]) C 2 (4 * lq.1) dX9_readsStatement_162 rfl rfl (by decide) rfl (by omega) rfl ?_
                    refine w_aload_n (nx := 164) C 5 dX9_readsStatement_163 rfl rfl rfl ?_
                    refine w_getM (nx := 167) C (.ref (a 41)) 0 41 dX9_readsStatement_164 rfl wl_X9_87 rfl (by decide) rfl (mg_41 _ _) ?_
                    refine w_iconst (nx := 168) C (nI 4) dX9_readsStatement_167 rfl (by decide) ?_
                    refine w_aload_n (nx := 169) C 5 dX9_readsStatement_168 rfl rfl rfl ?_
                    refine w_getM (nx := 172) C (.int (vW119 42)) 0 42 dX9_readsStatement_169 rfl wl_X9_252 rfl (by decide) rfl (mg_42 _ _) ?_
                    refine w_top (nI lq.1) gC119 ?_
                    refine w_imul (nx := 173) C (nI (4 * lq.1)) dX9_readsStatement_172 rfl (pk_mul _ _) ?_
                    refine w_iconst (nx := 174) C (nI 1) dX9_readsStatement_173 rfl (by decide) ?_
                    refine w_iadd (nx := 175) C (nI (4 * lq.1 + 1)) dX9_readsStatement_174 rfl (nI_add _ _) ?_
                    refine w_iload_n (nx := 176) C 3 dX9_readsStatement_175 rfl rfl rfl ?_
                    refine w_iast (nx := 177) (ws2 := [(a 0, mO a vW119), (a 7, aI (kG κ) 60 f7), (a 41, aI (kG κ) 64 (upd (upd f41 (4 * lq.1) (nI 0)) (4 * lq.1 + 1) (nI (sg P (a0 + 1) - 48))))]) C 2 (4 * lq.1 + 1) dX9_readsStatement_176 rfl rfl (by decide) rfl (by omega) rfl ?_
                    refine w_aload_n (nx := 178) C 5 dX9_readsStatement_177 rfl rfl rfl ?_
                    refine w_getM (nx := 181) C (.ref (a 41)) 0 41 dX9_readsStatement_178 rfl wl_X9_87 rfl (by decide) rfl (mg_41 _ _) ?_
                    refine w_iconst (nx := 182) C (nI 4) dX9_readsStatement_181 rfl (by decide) ?_
                    refine w_aload_n (nx := 183) C 5 dX9_readsStatement_182 rfl rfl rfl ?_
                    refine w_getM (nx := 186) C (.int (vW119 42)) 0 42 dX9_readsStatement_183 rfl wl_X9_252 rfl (by decide) rfl (mg_42 _ _) ?_
                    refine w_top (nI lq.1) gC119 ?_
                    refine w_imul (nx := 187) C (nI (4 * lq.1)) dX9_readsStatement_186 rfl (pk_mul _ _) ?_
                    refine w_iconst (nx := 188) C (nI 2) dX9_readsStatement_187 rfl (by decide) ?_
                    refine w_iadd (nx := 189) C (nI (4 * lq.1 + 2)) dX9_readsStatement_188 rfl (nI_add _ _) ?_
                    refine w_iload_n (nx := 190) C 2 dX9_readsStatement_189 rfl rfl rfl ?_
                    refine w_iast (nx := 191) (ws2 := [(a 0, mO a vW119), (a 7, aI (kG κ) 60 f7), (a 41, aI (kG κ) 64 (upd (upd (upd f41 (4 * lq.1) (nI 0)) (4 * lq.1 + 1) (nI (sg P (a0 + 1) - 48))) (4 * lq.1 + 2) (nI u80)))]) C 2 (4 * lq.1 + 2) dX9_readsStatement_190 rfl rfl (by decide) rfl (by omega) rfl ?_
                    refine w_aload_n (nx := 192) C 5 dX9_readsStatement_191 rfl rfl rfl ?_
                    refine w_getM (nx := 195) C (.ref (a 41)) 0 41 dX9_readsStatement_192 rfl wl_X9_87 rfl (by decide) rfl (mg_41 _ _) ?_
                    refine w_iconst (nx := 196) C (nI 4) dX9_readsStatement_195 rfl (by decide) ?_
                    refine w_aload_n (nx := 197) C 5 dX9_readsStatement_196 rfl rfl rfl ?_
                    refine w_getM (nx := 200) C (.int (vW119 42)) 0 42 dX9_readsStatement_197 rfl wl_X9_252 rfl (by decide) rfl (mg_42 _ _) ?_
                    refine w_top (nI lq.1) gC119 ?_
                    refine w_imul (nx := 201) C (nI (4 * lq.1)) dX9_readsStatement_200 rfl (pk_mul _ _) ?_
                    refine w_iconst (nx := 202) C (nI 3) dX9_readsStatement_201 rfl (by decide) ?_
                    refine w_iadd (nx := 203) C (nI (4 * lq.1 + 3)) dX9_readsStatement_202 rfl (nI_add _ _) ?_
                    refine w_iload (nx := 205) C 0 dX9_readsStatement_203 rfl rfl ?_
                    refine w_iast (nx := 206) (ws2 := [(a 0, mO a vW119), (a 7, aI (kG κ) 60 f7), (a 41, aI (kG κ) 64 (upd (upd (upd (upd f41 (4 * lq.1) (nI 0)) (4 * lq.1 + 1) (nI (sg P (a0 + 1) - 48))) (4 * lq.1 + 2) (nI u80)) (4 * lq.1 + 3) (nI u119)))]) C 2 (4 * lq.1 + 3) dX9_readsStatement_205 rfl rfl (by decide) rfl (by omega) rfl ?_
                    refine w_aload_n (nx := 207) C 5 dX9_readsStatement_206 rfl rfl rfl ?_
                    refine w_dup (nx := 208) C dX9_readsStatement_207 rfl rfl ?_
                    refine w_getM (nx := 211) C (.int (vW119 42)) 0 42 dX9_readsStatement_208 rfl wl_X9_252 rfl (by decide) rfl (mg_42 _ _) ?_
                    refine w_top (nI lq.1) gC119 ?_
                    refine w_iconst (nx := 212) C (nI 1) dX9_readsStatement_211 rfl (by decide) ?_
                    refine w_iadd (nx := 213) C (nI (lq.1 + 1)) dX9_readsStatement_212 rfl (nI_add _ _) ?_
                    refine w_putM (nx := 216) (ws2 := [(a 0, mO a (upd vW119 42 (nI (lq.1 + 1)))), (a 7, aI (kG κ) 60 f7), (a 41, aI (kG κ) 64 (upd (upd (upd (upd f41 (4 * lq.1) (nI 0)) (4 * lq.1 + 1) (nI (sg P (a0 + 1) - 48))) (4 * lq.1 + 2) (nI u80)) (4 * lq.1 + 3) (nI u119)))]) C 0 42 dX9_readsStatement_213 rfl wl_X9_252 rfl (by decide) rfl rfl rfl (ms_42 _ _ _) rfl ?_
                    exact w_vret C E dX9_readsStatement_216 rfl (Nat.le_refl _) (Nat.le_refl _) (Or.inl ⟨(0, sg P (a0 + 1) - 48, u80, u119), p119, _, _, rfl, rfl, (by have z9 := stm_8 (Or.inl hlt) nmt (by omega) gW80 (by rw [hlt]; rw [if_pos rfl]; omega) gW119; rw [hlt] at z9; exact z9), (gA119), (gB119), (rfl), (gG119.to3), (rQ_psh2 hQ (by decide) (by omega) (by omega) (by omega))⟩)
                · show WW κ 0 0 [(a 0, mO a vX119), (a 7, aI (kG κ) 60 f7), (a 41, aI (kG κ) 64 f41)] 122 [(5, .int (nI 61)), (4, .int (nI 0)), (3, .int (nI u80)), (2, .int (nI (sg P (a0 + 1) - 48))), (1, .int (nI (sg P a0))), (0, .ref (a 0))] [.int x119]
                  have gG119 : FRM v vX119 := gG113.trans gF119
                  have g8119 := gG119.2.1.trans h8
                  have gC119 := gG119.2.2.2.trans h42
                  refine w_istore (nx := 124) (lo2 := [(4, .int x119), (5, .int (nI 61)), (3, .int (nI u80)), (2, .int (nI (sg P (a0 + 1) - 48))), (1, .int (nI (sg P a0))), (0, .ref (a 0))]) C dX9_readsStatement_122 rfl (by decide) rfl ?_
                  refine w_aload_n (nx := 125) C 5 dX9_readsStatement_124 rfl rfl rfl ?_
                  refine w_getM (nx := 128) C (.int (vX119 40)) 0 40 dX9_readsStatement_125 rfl wl_X9_239 rfl (by decide) rfl (mg_40 _ _) ?_
                  refine w_top (nI 0) gA119 ?_
                  refine w_if_eq (tg := 216) (nx := 131) C dX9_readsStatement_128 rfl rfl (fun _ => ?_) (fun q9 => absurd (by decide) q9)
                  exact w_vret C E dX9_readsStatement_216 rfl (Nat.le_refl _) (Nat.le_refl _) (Or.inr (⟨(p80 + 1), _, rfl, rfl, (stm_7 (Or.inl hlt) nmt (by omega) gW80 (by rw [hlt]; rw [if_pos rfl]; omega) gX119), (gA119), (gB119), (gG119.to3)⟩))
              · show WW κ 0 0 [(a 0, mO a vX113), (a 7, aI (kG κ) 60 f7), (a 41, aI (kG κ) 64 f41)] 116 [(5, .int (nI 61)), (4, .int (nI 0)), (3, .int (nI u80)), (2, .int (nI (sg P (a0 + 1) - 48))), (1, .int (nI (sg P a0))), (0, .ref (a 0))] [.int x113]
                have gG113 : FRM v vX113 := gG80.trans gF113
                have g8113 := gG113.2.1.trans h8
                have gC113 := gG113.2.2.2.trans h42
                refine w_pop (nx := 117) C dX9_readsStatement_116 rfl rfl ?_
                refine w_aload_n (nx := 118) C 5 dX9_readsStatement_117 rfl rfl rfl ?_
                refine w_iconst (nx := 119) C (nI 3) dX9_readsStatement_118 rfl (by decide) ?_
                refine w_callV (nx := 122) (wr := [(a 41, aI (kG κ) 64 f41)]) (rest := []) C mi_X9_number (c_X9_number_n _ _ a vX113 f7 P p80 3 ((by first | assumption | exact h8 | rfl)) (by first | assumption | omega) (by first | assumption | omega) ((by first | assumption | rfl)) ((by omega)) ((by first | assumption | rfl)) (by first | assumption | omega) (by first | assumption | omega)) 0 dX9_readsStatement_119 rfl wl_X9_249 rfl rfl rfl (pm_sel [0, 1, 2] 3 (by decide +kernel) rfl rfl) rfl rfl (Nat.le_of_ble_eq_true rfl) (Nat.le_of_ble_eq_true rfl) (Nat.le_of_ble_eq_true rfl) (Nat.zero_le _) (Nat.zero_le _) (fun v9 w9 R_15 => ?_)
                obtain ⟨vX119, x119, rfl, rfl, gA119, gB119, gF119⟩ := R_15
                show WW κ 0 0 [(a 0, mO a vX119), (a 7, aI (kG κ) 60 f7), (a 41, aI (kG κ) 64 f41)] 122 [(5, .int (nI 61)), (4, .int (nI 0)), (3, .int (nI u80)), (2, .int (nI (sg P (a0 + 1) - 48))), (1, .int (nI (sg P a0))), (0, .ref (a 0))] [.int x119]
                have gG119 : FRM v vX119 := gG113.trans gF119
                have g8119 := gG119.2.1.trans h8
                have gC119 := gG119.2.2.2.trans h42
                refine w_istore (nx := 124) (lo2 := [(4, .int x119), (5, .int (nI 61)), (3, .int (nI u80)), (2, .int (nI (sg P (a0 + 1) - 48))), (1, .int (nI (sg P a0))), (0, .ref (a 0))]) C dX9_readsStatement_122 rfl (by decide) rfl ?_
                refine w_aload_n (nx := 125) C 5 dX9_readsStatement_124 rfl rfl rfl ?_
                refine w_getM (nx := 128) C (.int (vX119 40)) 0 40 dX9_readsStatement_125 rfl wl_X9_239 rfl (by decide) rfl (mg_40 _ _) ?_
                refine w_top (nI 0) gA119 ?_
                refine w_if_eq (tg := 216) (nx := 131) C dX9_readsStatement_128 rfl rfl (fun _ => ?_) (fun q9 => absurd (by decide) q9)
                exact w_vret C E dX9_readsStatement_216 rfl (Nat.le_refl _) (Nat.le_refl _) (Or.inr (⟨p80, _, rfl, rfl, (stm_6 (Or.inl hlt) nmt (by omega) gW80 (by rw [hlt]; rw [if_pos rfl]; omega)), (gA119), (gB119), (gG119.to3)⟩))
        · show WW κ 0 0 [(a 0, mO a vX80), (a 7, aI (kG κ) 60 f7), (a 41, aI (kG κ) 64 f41)] 83 [(2, .int (nI (sg P (a0 + 1) - 48))), (1, .int (nI (sg P a0))), (0, .ref (a 0))] [.int x80]
          have gG80 : FRM v vX80 := gG74.trans gF80
          have g880 := gG80.2.1.trans h8
          have gC80 := gG80.2.2.2.trans h42
          refine w_istore_n (nx := 84) (lo2 := [(3, .int x80), (2, .int (nI (sg P (a0 + 1) - 48))), (1, .int (nI (sg P a0))), (0, .ref (a 0))]) C dX9_readsStatement_83 rfl rfl (by decide) rfl ?_
          refine w_iconst (nx := 85) C (nI 0) dX9_readsStatement_84 rfl (by decide) ?_
          refine w_istore (nx := 87) (lo2 := [(4, .int (nI 0)), (3, .int x80), (2, .int (nI (sg P (a0 + 1) - 48))), (1, .int (nI (sg P a0))), (0, .ref (a 0))]) C dX9_readsStatement_85 rfl (by decide) rfl ?_
          refine w_iload_n (nx := 88) C 3 dX9_readsStatement_87 rfl rfl rfl ?_
          refine w_bipush (nx := 90) C (nI 100) dX9_readsStatement_88 rfl (by decide) ?_
          refine n_icmp_eq (tg := 124) (nx := 93) C dX9_readsStatement_90 rfl rfl (by omega) (by omega) (fun h_17 => ?_) (fun h_17 => ?_)
          · exfalso; omega
          · refine w_iload_n (nx := 94) C 3 dX9_readsStatement_93 rfl rfl rfl ?_
            refine w_bipush (nx := 96) C (nI 108) dX9_readsStatement_94 rfl (by decide) ?_
            refine n_icmp_ne (tg := 104) (nx := 99) C dX9_readsStatement_96 rfl rfl (by omega) (by omega) (fun h_18 => ?_) (fun h_18 => ?_)
            · exfalso; omega
            · refine w_bipush (nx := 101) C (nI 61) dX9_readsStatement_99 rfl (by decide) ?_
              refine w_goto (nx := 106) C dX9_readsStatement_101 rfl ?_
              refine w_istore (nx := 108) (lo2 := [(5, .int (nI 61)), (4, .int (nI 0)), (3, .int x80), (2, .int (nI (sg P (a0 + 1) - 48))), (1, .int (nI (sg P a0))), (0, .ref (a 0))]) C dX9_readsStatement_106 rfl (by decide) rfl ?_
              refine w_aload_n (nx := 109) C 5 dX9_readsStatement_108 rfl rfl rfl ?_
              refine w_iload (nx := 111) C 0 dX9_readsStatement_109 rfl rfl ?_
              refine w_iload (nx := 113) C 0 dX9_readsStatement_111 rfl rfl ?_
              refine w_callV (nx := 116) (wr := [(a 41, aI (kG κ) 64 f41)]) (rest := []) C mi_X9_takes (c_X9_takes_n _ _ a vX80 f7 P (a0 + 1 + 1 + 1) 61 61 ((by first | assumption | exact h8 | rfl)) (by first | assumption | omega) (by first | assumption | omega) ((by first | assumption | rfl)) ((by omega)) (by first | assumption | omega) (by first | assumption | omega) ((by first | assumption | rfl))) 0 dX9_readsStatement_113 rfl wl_X9_246 rfl rfl rfl (pm_sel [0, 1, 2] 3 (by decide +kernel) rfl rfl) rfl rfl (Nat.le_of_ble_eq_true rfl) (Nat.le_of_ble_eq_true rfl) (Nat.le_of_ble_eq_true rfl) (Nat.zero_le _) (Nat.zero_le _) (fun v9 w9 R_19 => ?_)
              obtain ⟨vX113, x113, rfl, rfl, gA113, gB113, gF113⟩ := R_19
              show WW κ 0 0 [(a 0, mO a vX113), (a 7, aI (kG κ) 60 f7), (a 41, aI (kG κ) 64 f41)] 116 [(5, .int (nI 61)), (4, .int (nI 0)), (3, .int x80), (2, .int (nI (sg P (a0 + 1) - 48))), (1, .int (nI (sg P a0))), (0, .ref (a 0))] [.int x113]
              have gG113 : FRM v vX113 := gG80.trans gF113
              have g8113 := gG113.2.1.trans h8
              have gC113 := gG113.2.2.2.trans h42
              refine w_pop (nx := 117) C dX9_readsStatement_116 rfl rfl ?_
              refine w_aload_n (nx := 118) C 5 dX9_readsStatement_117 rfl rfl rfl ?_
              refine w_iconst (nx := 119) C (nI 3) dX9_readsStatement_118 rfl (by decide) ?_
              refine w_callV (nx := 122) (wr := [(a 41, aI (kG κ) 64 f41)]) (rest := []) C mi_X9_number (c_X9_number_n _ _ a vX113 f7 P (a0 + 1 + 1 + 1) 3 ((by first | assumption | exact h8 | rfl)) (by first | assumption | omega) (by first | assumption | omega) ((by first | assumption | rfl)) ((by omega)) ((by first | assumption | rfl)) (by first | assumption | omega) (by first | assumption | omega)) 0 dX9_readsStatement_119 rfl wl_X9_249 rfl rfl rfl (pm_sel [0, 1, 2] 3 (by decide +kernel) rfl rfl) rfl rfl (Nat.le_of_ble_eq_true rfl) (Nat.le_of_ble_eq_true rfl) (Nat.le_of_ble_eq_true rfl) (Nat.zero_le _) (Nat.zero_le _) (fun v9 w9 R_20 => ?_)
              obtain ⟨vX119, x119, rfl, rfl, gA119, gB119, gF119⟩ := R_20
              show WW κ 0 0 [(a 0, mO a vX119), (a 7, aI (kG κ) 60 f7), (a 41, aI (kG κ) 64 f41)] 122 [(5, .int (nI 61)), (4, .int (nI 0)), (3, .int x80), (2, .int (nI (sg P (a0 + 1) - 48))), (1, .int (nI (sg P a0))), (0, .ref (a 0))] [.int x119]
              have gG119 : FRM v vX119 := gG113.trans gF119
              have g8119 := gG119.2.1.trans h8
              have gC119 := gG119.2.2.2.trans h42
              refine w_istore (nx := 124) (lo2 := [(4, .int x119), (5, .int (nI 61)), (3, .int x80), (2, .int (nI (sg P (a0 + 1) - 48))), (1, .int (nI (sg P a0))), (0, .ref (a 0))]) C dX9_readsStatement_122 rfl (by decide) rfl ?_
              refine w_aload_n (nx := 125) C 5 dX9_readsStatement_124 rfl rfl rfl ?_
              refine w_getM (nx := 128) C (.int (vX119 40)) 0 40 dX9_readsStatement_125 rfl wl_X9_239 rfl (by decide) rfl (mg_40 _ _) ?_
              refine w_top (nI 0) gA119 ?_
              refine w_if_eq (tg := 216) (nx := 131) C dX9_readsStatement_128 rfl rfl (fun _ => ?_) (fun q9 => absurd (by decide) q9)
              exact w_vret C E dX9_readsStatement_216 rfl (Nat.le_refl _) (Nat.le_refl _) (Or.inr (⟨(a0 + 1 + 1 + 1), _, rfl, rfl, (stm_4 (Or.inl hlt) nmt (by omega) gX80), (gA119), (gB119), (gG119.to3)⟩))
      · show WW κ 0 0 [(a 0, mO a vX74), (a 7, aI (kG κ) 60 f7), (a 41, aI (kG κ) 64 f41)] 77 [(2, .int (nI (sg P (a0 + 1) - 48))), (1, .int (nI (sg P a0))), (0, .ref (a 0))] [.int x74]
        have gG74 : FRM v vX74 := gG65.trans gF74
        have g874 := gG74.2.1.trans h8
        have gC74 := gG74.2.2.2.trans h42
        refine w_pop (nx := 78) C dX9_readsStatement_77 rfl rfl ?_
        refine w_aload_n (nx := 79) C 2 dX9_readsStatement_78 rfl rfl rfl ?_
        refine w_iconst (nx := 80) C (nI 2) dX9_readsStatement_79 rfl (by decide) ?_
        refine w_callV (nx := 83) (wr := [(a 41, aI (kG κ) 64 f41)]) (rest := []) C mi_X9_number (c_X9_number_n _ _ a vX74 f7 P (a0 + 1 + 1) 2 ((by first | assumption | exact h8 | rfl)) (by first | assumption | omega) (by first | assumption | omega) ((by first | assumption | rfl)) ((by omega)) ((by first | assumption | rfl)) (by first | assumption | omega) (by first | assumption | omega)) 0 dX9_readsStatement_80 rfl wl_X9_249 rfl rfl rfl (pm_sel [0, 1, 2] 3 (by decide +kernel) rfl rfl) rfl rfl (Nat.le_of_ble_eq_true rfl) (Nat.le_of_ble_eq_true rfl) (Nat.le_of_ble_eq_true rfl) (Nat.zero_le _) (Nat.zero_le _) (fun v9 w9 R_22 => ?_)
        obtain ⟨vX80, x80, rfl, rfl, gA80, gB80, gF80⟩ := R_22
        show WW κ 0 0 [(a 0, mO a vX80), (a 7, aI (kG κ) 60 f7), (a 41, aI (kG κ) 64 f41)] 83 [(2, .int (nI (sg P (a0 + 1) - 48))), (1, .int (nI (sg P a0))), (0, .ref (a 0))] [.int x80]
        have gG80 : FRM v vX80 := gG74.trans gF80
        have g880 := gG80.2.1.trans h8
        have gC80 := gG80.2.2.2.trans h42
        refine w_istore_n (nx := 84) (lo2 := [(3, .int x80), (2, .int (nI (sg P (a0 + 1) - 48))), (1, .int (nI (sg P a0))), (0, .ref (a 0))]) C dX9_readsStatement_83 rfl rfl (by decide) rfl ?_
        refine w_iconst (nx := 85) C (nI 0) dX9_readsStatement_84 rfl (by decide) ?_
        refine w_istore (nx := 87) (lo2 := [(4, .int (nI 0)), (3, .int x80), (2, .int (nI (sg P (a0 + 1) - 48))), (1, .int (nI (sg P a0))), (0, .ref (a 0))]) C dX9_readsStatement_85 rfl (by decide) rfl ?_
        refine w_iload_n (nx := 88) C 3 dX9_readsStatement_87 rfl rfl rfl ?_
        refine w_bipush (nx := 90) C (nI 100) dX9_readsStatement_88 rfl (by decide) ?_
        refine n_icmp_eq (tg := 124) (nx := 93) C dX9_readsStatement_90 rfl rfl (by omega) (by omega) (fun h_23 => ?_) (fun h_23 => ?_)
        · exfalso; omega
        · refine w_iload_n (nx := 94) C 3 dX9_readsStatement_93 rfl rfl rfl ?_
          refine w_bipush (nx := 96) C (nI 108) dX9_readsStatement_94 rfl (by decide) ?_
          refine n_icmp_ne (tg := 104) (nx := 99) C dX9_readsStatement_96 rfl rfl (by omega) (by omega) (fun h_24 => ?_) (fun h_24 => ?_)
          · exfalso; omega
          · refine w_bipush (nx := 101) C (nI 61) dX9_readsStatement_99 rfl (by decide) ?_
            refine w_goto (nx := 106) C dX9_readsStatement_101 rfl ?_
            refine w_istore (nx := 108) (lo2 := [(5, .int (nI 61)), (4, .int (nI 0)), (3, .int x80), (2, .int (nI (sg P (a0 + 1) - 48))), (1, .int (nI (sg P a0))), (0, .ref (a 0))]) C dX9_readsStatement_106 rfl (by decide) rfl ?_
            refine w_aload_n (nx := 109) C 5 dX9_readsStatement_108 rfl rfl rfl ?_
            refine w_iload (nx := 111) C 0 dX9_readsStatement_109 rfl rfl ?_
            refine w_iload (nx := 113) C 0 dX9_readsStatement_111 rfl rfl ?_
            refine w_callV (nx := 116) (wr := [(a 41, aI (kG κ) 64 f41)]) (rest := []) C mi_X9_takes (c_X9_takes_n _ _ a vX80 f7 P (a0 + 1 + 1) 61 61 ((by first | assumption | exact h8 | rfl)) (by first | assumption | omega) (by first | assumption | omega) ((by first | assumption | rfl)) ((by omega)) (by first | assumption | omega) (by first | assumption | omega) ((by first | assumption | rfl))) 0 dX9_readsStatement_113 rfl wl_X9_246 rfl rfl rfl (pm_sel [0, 1, 2] 3 (by decide +kernel) rfl rfl) rfl rfl (Nat.le_of_ble_eq_true rfl) (Nat.le_of_ble_eq_true rfl) (Nat.le_of_ble_eq_true rfl) (Nat.zero_le _) (Nat.zero_le _) (fun v9 w9 R_25 => ?_)
            obtain ⟨vX113, x113, rfl, rfl, gA113, gB113, gF113⟩ := R_25
            show WW κ 0 0 [(a 0, mO a vX113), (a 7, aI (kG κ) 60 f7), (a 41, aI (kG κ) 64 f41)] 116 [(5, .int (nI 61)), (4, .int (nI 0)), (3, .int x80), (2, .int (nI (sg P (a0 + 1) - 48))), (1, .int (nI (sg P a0))), (0, .ref (a 0))] [.int x113]
            have gG113 : FRM v vX113 := gG80.trans gF113
            have g8113 := gG113.2.1.trans h8
            have gC113 := gG113.2.2.2.trans h42
            refine w_pop (nx := 117) C dX9_readsStatement_116 rfl rfl ?_
            refine w_aload_n (nx := 118) C 5 dX9_readsStatement_117 rfl rfl rfl ?_
            refine w_iconst (nx := 119) C (nI 3) dX9_readsStatement_118 rfl (by decide) ?_
            refine w_callV (nx := 122) (wr := [(a 41, aI (kG κ) 64 f41)]) (rest := []) C mi_X9_number (c_X9_number_n _ _ a vX113 f7 P (a0 + 1 + 1) 3 ((by first | assumption | exact h8 | rfl)) (by first | assumption | omega) (by first | assumption | omega) ((by first | assumption | rfl)) ((by omega)) ((by first | assumption | rfl)) (by first | assumption | omega) (by first | assumption | omega)) 0 dX9_readsStatement_119 rfl wl_X9_249 rfl rfl rfl (pm_sel [0, 1, 2] 3 (by decide +kernel) rfl rfl) rfl rfl (Nat.le_of_ble_eq_true rfl) (Nat.le_of_ble_eq_true rfl) (Nat.le_of_ble_eq_true rfl) (Nat.zero_le _) (Nat.zero_le _) (fun v9 w9 R_26 => ?_)
            obtain ⟨vX119, x119, rfl, rfl, gA119, gB119, gF119⟩ := R_26
            show WW κ 0 0 [(a 0, mO a vX119), (a 7, aI (kG κ) 60 f7), (a 41, aI (kG κ) 64 f41)] 122 [(5, .int (nI 61)), (4, .int (nI 0)), (3, .int x80), (2, .int (nI (sg P (a0 + 1) - 48))), (1, .int (nI (sg P a0))), (0, .ref (a 0))] [.int x119]
            have gG119 : FRM v vX119 := gG113.trans gF119
            have g8119 := gG119.2.1.trans h8
            have gC119 := gG119.2.2.2.trans h42
            refine w_istore (nx := 124) (lo2 := [(4, .int x119), (5, .int (nI 61)), (3, .int x80), (2, .int (nI (sg P (a0 + 1) - 48))), (1, .int (nI (sg P a0))), (0, .ref (a 0))]) C dX9_readsStatement_122 rfl (by decide) rfl ?_
            refine w_aload_n (nx := 125) C 5 dX9_readsStatement_124 rfl rfl rfl ?_
            refine w_getM (nx := 128) C (.int (vX119 40)) 0 40 dX9_readsStatement_125 rfl wl_X9_239 rfl (by decide) rfl (mg_40 _ _) ?_
            refine w_top (nI 0) gA119 ?_
            refine w_if_eq (tg := 216) (nx := 131) C dX9_readsStatement_128 rfl rfl (fun _ => ?_) (fun q9 => absurd (by decide) q9)
            exact w_vret C E dX9_readsStatement_216 rfl (Nat.le_refl _) (Nat.le_refl _) (Or.inr (⟨(a0 + 1 + 1), _, rfl, rfl, (stm_3 (Or.inl hlt) nmt (by omega)), (gA119), (gB119), (gG119.to3)⟩))
    · show WW κ 0 0 [(a 0, mO a vX65), (a 7, aI (kG κ) 60 f7), (a 41, aI (kG κ) 64 f41)] 68 [(1, .int (nI (sg P a0))), (0, .ref (a 0))] [.int x65]
      have gG65 : FRM v vX65 := FRM.trans (w := _) ⟨rfl, rfl, rfl, rfl⟩ gF65
      have g865 := gG65.2.1.trans h8
      have gC65 := gG65.2.2.2.trans h42
      refine w_istore_n (nx := 69) (lo2 := [(2, .int x65), (1, .int (nI (sg P a0))), (0, .ref (a 0))]) C dX9_readsStatement_68 rfl rfl (by decide) rfl ?_
      refine w_aload_n (nx := 70) C 2 dX9_readsStatement_69 rfl rfl rfl ?_
      refine w_bipush (nx := 72) C (nI 46) dX9_readsStatement_70 rfl (by decide) ?_
      refine w_bipush (nx := 74) C (nI 46) dX9_readsStatement_72 rfl (by decide) ?_
      refine w_callV (nx := 77) (wr := [(a 41, aI (kG κ) 64 f41)]) (rest := []) C mi_X9_takes (c_X9_takes_n _ _ a vX65 f7 P (a0 + 1) 46 46 ((by first | assumption | exact h8 | rfl)) (by first | assumption | omega) (by first | assumption | omega) ((by first | assumption | rfl)) ((by omega)) (by first | assumption | omega) (by first | assumption | omega) ((by first | assumption | rfl))) 0 dX9_readsStatement_74 rfl wl_X9_246 rfl rfl rfl (pm_sel [0, 1, 2] 3 (by decide +kernel) rfl rfl) rfl rfl (Nat.le_of_ble_eq_true rfl) (Nat.le_of_ble_eq_true rfl) (Nat.le_of_ble_eq_true rfl) (Nat.zero_le _) (Nat.zero_le _) (fun v9 w9 R_28 => ?_)
      obtain ⟨vX74, x74, rfl, rfl, gA74, gB74, gF74⟩ := R_28
      show WW κ 0 0 [(a 0, mO a vX74), (a 7, aI (kG κ) 60 f7), (a 41, aI (kG κ) 64 f41)] 77 [(2, .int x65), (1, .int (nI (sg P a0))), (0, .ref (a 0))] [.int x74]
      have gG74 : FRM v vX74 := gG65.trans gF74
      have g874 := gG74.2.1.trans h8
      have gC74 := gG74.2.2.2.trans h42
      refine w_pop (nx := 78) C dX9_readsStatement_77 rfl rfl ?_
      refine w_aload_n (nx := 79) C 2 dX9_readsStatement_78 rfl rfl rfl ?_
      refine w_iconst (nx := 80) C (nI 2) dX9_readsStatement_79 rfl (by decide) ?_
      refine w_callV (nx := 83) (wr := [(a 41, aI (kG κ) 64 f41)]) (rest := []) C mi_X9_number (c_X9_number_n _ _ a vX74 f7 P (a0 + 1) 2 ((by first | assumption | exact h8 | rfl)) (by first | assumption | omega) (by first | assumption | omega) ((by first | assumption | rfl)) ((by omega)) ((by first | assumption | rfl)) (by first | assumption | omega) (by first | assumption | omega)) 0 dX9_readsStatement_80 rfl wl_X9_249 rfl rfl rfl (pm_sel [0, 1, 2] 3 (by decide +kernel) rfl rfl) rfl rfl (Nat.le_of_ble_eq_true rfl) (Nat.le_of_ble_eq_true rfl) (Nat.le_of_ble_eq_true rfl) (Nat.zero_le _) (Nat.zero_le _) (fun v9 w9 R_29 => ?_)
      obtain ⟨vX80, x80, rfl, rfl, gA80, gB80, gF80⟩ := R_29
      show WW κ 0 0 [(a 0, mO a vX80), (a 7, aI (kG κ) 60 f7), (a 41, aI (kG κ) 64 f41)] 83 [(2, .int x65), (1, .int (nI (sg P a0))), (0, .ref (a 0))] [.int x80]
      have gG80 : FRM v vX80 := gG74.trans gF80
      have g880 := gG80.2.1.trans h8
      have gC80 := gG80.2.2.2.trans h42
      refine w_istore_n (nx := 84) (lo2 := [(3, .int x80), (2, .int x65), (1, .int (nI (sg P a0))), (0, .ref (a 0))]) C dX9_readsStatement_83 rfl rfl (by decide) rfl ?_
      refine w_iconst (nx := 85) C (nI 0) dX9_readsStatement_84 rfl (by decide) ?_
      refine w_istore (nx := 87) (lo2 := [(4, .int (nI 0)), (3, .int x80), (2, .int x65), (1, .int (nI (sg P a0))), (0, .ref (a 0))]) C dX9_readsStatement_85 rfl (by decide) rfl ?_
      refine w_iload_n (nx := 88) C 3 dX9_readsStatement_87 rfl rfl rfl ?_
      refine w_bipush (nx := 90) C (nI 100) dX9_readsStatement_88 rfl (by decide) ?_
      refine n_icmp_eq (tg := 124) (nx := 93) C dX9_readsStatement_90 rfl rfl (by omega) (by omega) (fun h_30 => ?_) (fun h_30 => ?_)
      · exfalso; omega
      · refine w_iload_n (nx := 94) C 3 dX9_readsStatement_93 rfl rfl rfl ?_
        refine w_bipush (nx := 96) C (nI 108) dX9_readsStatement_94 rfl (by decide) ?_
        refine n_icmp_ne (tg := 104) (nx := 99) C dX9_readsStatement_96 rfl rfl (by omega) (by omega) (fun h_31 => ?_) (fun h_31 => ?_)
        · exfalso; omega
        · refine w_bipush (nx := 101) C (nI 61) dX9_readsStatement_99 rfl (by decide) ?_
          refine w_goto (nx := 106) C dX9_readsStatement_101 rfl ?_
          refine w_istore (nx := 108) (lo2 := [(5, .int (nI 61)), (4, .int (nI 0)), (3, .int x80), (2, .int x65), (1, .int (nI (sg P a0))), (0, .ref (a 0))]) C dX9_readsStatement_106 rfl (by decide) rfl ?_
          refine w_aload_n (nx := 109) C 5 dX9_readsStatement_108 rfl rfl rfl ?_
          refine w_iload (nx := 111) C 0 dX9_readsStatement_109 rfl rfl ?_
          refine w_iload (nx := 113) C 0 dX9_readsStatement_111 rfl rfl ?_
          refine w_callV (nx := 116) (wr := [(a 41, aI (kG κ) 64 f41)]) (rest := []) C mi_X9_takes (c_X9_takes_n _ _ a vX80 f7 P (a0 + 1) 61 61 ((by first | assumption | exact h8 | rfl)) (by first | assumption | omega) (by first | assumption | omega) ((by first | assumption | rfl)) ((by omega)) (by first | assumption | omega) (by first | assumption | omega) ((by first | assumption | rfl))) 0 dX9_readsStatement_113 rfl wl_X9_246 rfl rfl rfl (pm_sel [0, 1, 2] 3 (by decide +kernel) rfl rfl) rfl rfl (Nat.le_of_ble_eq_true rfl) (Nat.le_of_ble_eq_true rfl) (Nat.le_of_ble_eq_true rfl) (Nat.zero_le _) (Nat.zero_le _) (fun v9 w9 R_32 => ?_)
          obtain ⟨vX113, x113, rfl, rfl, gA113, gB113, gF113⟩ := R_32
          show WW κ 0 0 [(a 0, mO a vX113), (a 7, aI (kG κ) 60 f7), (a 41, aI (kG κ) 64 f41)] 116 [(5, .int (nI 61)), (4, .int (nI 0)), (3, .int x80), (2, .int x65), (1, .int (nI (sg P a0))), (0, .ref (a 0))] [.int x113]
          have gG113 : FRM v vX113 := gG80.trans gF113
          have g8113 := gG113.2.1.trans h8
          have gC113 := gG113.2.2.2.trans h42
          refine w_pop (nx := 117) C dX9_readsStatement_116 rfl rfl ?_
          refine w_aload_n (nx := 118) C 5 dX9_readsStatement_117 rfl rfl rfl ?_
          refine w_iconst (nx := 119) C (nI 3) dX9_readsStatement_118 rfl (by decide) ?_
          refine w_callV (nx := 122) (wr := [(a 41, aI (kG κ) 64 f41)]) (rest := []) C mi_X9_number (c_X9_number_n _ _ a vX113 f7 P (a0 + 1) 3 ((by first | assumption | exact h8 | rfl)) (by first | assumption | omega) (by first | assumption | omega) ((by first | assumption | rfl)) ((by omega)) ((by first | assumption | rfl)) (by first | assumption | omega) (by first | assumption | omega)) 0 dX9_readsStatement_119 rfl wl_X9_249 rfl rfl rfl (pm_sel [0, 1, 2] 3 (by decide +kernel) rfl rfl) rfl rfl (Nat.le_of_ble_eq_true rfl) (Nat.le_of_ble_eq_true rfl) (Nat.le_of_ble_eq_true rfl) (Nat.zero_le _) (Nat.zero_le _) (fun v9 w9 R_33 => ?_)
          obtain ⟨vX119, x119, rfl, rfl, gA119, gB119, gF119⟩ := R_33
          show WW κ 0 0 [(a 0, mO a vX119), (a 7, aI (kG κ) 60 f7), (a 41, aI (kG κ) 64 f41)] 122 [(5, .int (nI 61)), (4, .int (nI 0)), (3, .int x80), (2, .int x65), (1, .int (nI (sg P a0))), (0, .ref (a 0))] [.int x119]
          have gG119 : FRM v vX119 := gG113.trans gF119
          have g8119 := gG119.2.1.trans h8
          have gC119 := gG119.2.2.2.trans h42
          refine w_istore (nx := 124) (lo2 := [(4, .int x119), (5, .int (nI 61)), (3, .int x80), (2, .int x65), (1, .int (nI (sg P a0))), (0, .ref (a 0))]) C dX9_readsStatement_122 rfl (by decide) rfl ?_
          refine w_aload_n (nx := 125) C 5 dX9_readsStatement_124 rfl rfl rfl ?_
          refine w_getM (nx := 128) C (.int (vX119 40)) 0 40 dX9_readsStatement_125 rfl wl_X9_239 rfl (by decide) rfl (mg_40 _ _) ?_
          refine w_top (nI 0) gA119 ?_
          refine w_if_eq (tg := 216) (nx := 131) C dX9_readsStatement_128 rfl rfl (fun _ => ?_) (fun q9 => absurd (by decide) q9)
          exact w_vret C E dX9_readsStatement_216 rfl (Nat.le_refl _) (Nat.le_refl _) (Or.inr (⟨(a0 + 1), _, rfl, rfl, (stm_2 (Or.inl hlt) (nmP_none (by omega))), (gA119), (gB119), (gG119.to3)⟩))
  · refine w_iload_n (nx := 20) C 0 dX9_readsStatement_19 rfl rfl rfl ?_
    refine w_bipush (nx := 22) C (nI 97) dX9_readsStatement_20 rfl (by decide) ?_
    refine n_icmp_eq (tg := 31) (nx := 25) C dX9_readsStatement_22 rfl rfl (by omega) (by omega) (fun h_35 => ?_) (fun h_35 => ?_)
    · have hlt : sg P a0 = 97 := by omega
      have gL0 : a0 + 1 ≤ P.1 := sg_lt (P := P) (a := a0) (by omega)
      refine w_iconst (nx := 32) C (nI 1) dX9_readsStatement_31 rfl (by decide) ?_
      refine w_goto (nx := 36) C dX9_readsStatement_32 rfl ?_
      refine w_putM (nx := 39) (ws2 := [(a 0, mO a (upd v 40 (nI 1))), (a 7, aI (kG κ) 60 f7), (a 41, aI (kG κ) 64 f41)]) C 0 40 dX9_readsStatement_36 rfl wl_X9_239 rfl (by decide) rfl rfl rfl (ms_40 _ _ _) rfl ?_
      refine w_aload_n (nx := 40) C 1 dX9_readsStatement_39 rfl rfl rfl ?_
      refine w_dup (nx := 41) C dX9_readsStatement_40 rfl rfl ?_
      refine w_getM (nx := 44) C (.int (v 39)) 0 39 dX9_readsStatement_41 rfl wl_X9_236 rfl (by decide) rfl (mg_39 _ _) ?_
      refine w_top (nI a0) h39 ?_
      refine w_aload_n (nx := 45) C 1 dX9_readsStatement_44 rfl rfl rfl ?_
      refine w_getM (nx := 48) C (.int (nI 1)) 0 40 dX9_readsStatement_45 rfl wl_X9_239 rfl (by decide) rfl (mg_40 _ _) ?_
      refine w_if_eq (tg := 55) (nx := 51) C dX9_readsStatement_48 rfl rfl (fun q9 => absurd q9 (by decide)) (fun _ => ?_)
      refine w_iconst (nx := 52) C (nI 1) dX9_readsStatement_51 rfl (by decide) ?_
      refine w_goto (nx := 56) C dX9_readsStatement_52 rfl ?_
      refine w_iadd (nx := 57) C (nI (a0 + 1)) dX9_readsStatement_56 rfl (nI_add _ _) ?_
      refine w_putM (nx := 60) (ws2 := [(a 0, mO a (upd (upd v 40 (nI 1)) 39 (nI (a0 + 1)))), (a 7, aI (kG κ) 60 f7), (a 41, aI (kG κ) 64 f41)]) C 0 39 dX9_readsStatement_57 rfl wl_X9_236 rfl (by decide) rfl rfl rfl (ms_39 _ _ _) rfl ?_
      refine w_aload_n (nx := 61) C 1 dX9_readsStatement_60 rfl rfl rfl ?_
      refine w_bipush (nx := 63) C (nI 48) dX9_readsStatement_61 rfl (by decide) ?_
      refine w_bipush (nx := 65) C (nI 51) dX9_readsStatement_63 rfl (by decide) ?_
      refine w_callV (nx := 68) (wr := [(a 41, aI (kG κ) 64 f41)]) (rest := []) C mi_X9_takes (c_X9_takes_w _ _ a (upd (upd v 40 (nI 1)) 39 (nI (a0 + 1))) f7 P (a0 + 1) 48 51 ((by first | assumption | exact h8 | rfl)) (by first | assumption | omega) (by first | assumption | omega) ((by first | assumption | rfl)) ((by omega)) (by first | assumption | omega) (by first | assumption | omega) ((by first | assumption | rfl))) 0 dX9_readsStatement_65 rfl wl_X9_246 rfl rfl rfl (pm_sel [0, 1, 2] 3 (by decide +kernel) rfl rfl) rfl rfl (Nat.le_of_ble_eq_true rfl) (Nat.le_of_ble_eq_true rfl) (Nat.le_of_ble_eq_true rfl) (Nat.zero_le _) (Nat.zero_le _) (fun v9 w9 R_37 => ?_)
      rcases R_37 with ⟨vW65, rfl, rfl, gW65, gV65, gA65, gB65, gF65⟩ | ⟨vX65, x65, rfl, rfl, gX65, gA65, gB65, gF65⟩
      · show WW κ 0 0 [(a 0, mO a vW65), (a 7, aI (kG κ) 60 f7), (a 41, aI (kG κ) 64 f41)] 68 [(1, .int (nI (sg P a0))), (0, .ref (a 0))] [.int (nI (sg P (a0 + 1) - 48))]
        have gG65 : FRM v vW65 := FRM.trans (w := _) ⟨rfl, rfl, rfl, rfl⟩ gF65
        have g865 := gG65.2.1.trans h8
        have gC65 := gG65.2.2.2.trans h42
        have gL65 : (a0 + 1 + 1) ≤ P.1 := sg_lt (P := P) (a := a0 + 1) (by omega)
        have nmt : nmP P 4 0 (a0 + 1) = some (sg P (a0 + 1) - 48, a0 + 1 + 1) := nmP_some ⟨by omega, by omega⟩
        refine w_istore_n (nx := 69) (lo2 := [(2, .int (nI (sg P (a0 + 1) - 48))), (1, .int (nI (sg P a0))), (0, .ref (a 0))]) C dX9_readsStatement_68 rfl rfl (by decide) rfl ?_
        refine w_aload_n (nx := 70) C 2 dX9_readsStatement_69 rfl rfl rfl ?_
        refine w_bipush (nx := 72) C (nI 46) dX9_readsStatement_70 rfl (by decide) ?_
        refine w_bipush (nx := 74) C (nI 46) dX9_readsStatement_72 rfl (by decide) ?_
        refine w_callV (nx := 77) (wr := [(a 41, aI (kG κ) 64 f41)]) (rest := []) C mi_X9_takes (c_X9_takes_w _ _ a vW65 f7 P (a0 + 1 + 1) 46 46 ((by first | assumption | exact h8 | rfl)) (by first | assumption | omega) (by first | assumption | omega) ((by first | assumption | rfl)) ((by omega)) (by first | assumption | omega) (by first | assumption | omega) ((by first | assumption | rfl))) 0 dX9_readsStatement_74 rfl wl_X9_246 rfl rfl rfl (pm_sel [0, 1, 2] 3 (by decide +kernel) rfl rfl) rfl rfl (Nat.le_of_ble_eq_true rfl) (Nat.le_of_ble_eq_true rfl) (Nat.le_of_ble_eq_true rfl) (Nat.zero_le _) (Nat.zero_le _) (fun v9 w9 R_38 => ?_)
        rcases R_38 with ⟨vW74, rfl, rfl, gW74, gV74, gA74, gB74, gF74⟩ | ⟨vX74, x74, rfl, rfl, gX74, gA74, gB74, gF74⟩
        · show WW κ 0 0 [(a 0, mO a vW74), (a 7, aI (kG κ) 60 f7), (a 41, aI (kG κ) 64 f41)] 77 [(2, .int (nI (sg P (a0 + 1) - 48))), (1, .int (nI (sg P a0))), (0, .ref (a 0))] [.int (nI (sg P (a0 + 1 + 1) - 46))]
          have gG74 : FRM v vW74 := gG65.trans gF74
          have g874 := gG74.2.1.trans h8
          have gC74 := gG74.2.2.2.trans h42
          have gL74 : (a0 + 1 + 1 + 1) ≤ P.1 := sg_lt (P := P) (a := a0 + 1 + 1) (by omega)
          refine w_pop (nx := 78) C dX9_readsStatement_77 rfl rfl ?_
          refine w_aload_n (nx := 79) C 2 dX9_readsStatement_78 rfl rfl rfl ?_
          refine w_iconst (nx := 80) C (nI 2) dX9_readsStatement_79 rfl (by decide) ?_
          refine w_callV (nx := 83) (wr := [(a 41, aI (kG κ) 64 f41)]) (rest := []) C mi_X9_number (c_X9_number_w2 _ _ a vW74 f7 P (a0 + 1 + 1 + 1) ((by first | assumption | exact h8 | rfl)) (by first | assumption | omega) (by first | assumption | omega) ((by first | assumption | rfl)) ((by omega)) ((by first | assumption | rfl))) 0 dX9_readsStatement_80 rfl wl_X9_249 rfl rfl rfl (pm_sel [0, 1, 2] 3 (by decide +kernel) rfl rfl) rfl rfl (Nat.le_of_ble_eq_true rfl) (Nat.le_of_ble_eq_true rfl) (Nat.le_of_ble_eq_true rfl) (Nat.zero_le _) (Nat.zero_le _) (fun v9 w9 R_39 => ?_)
          rcases R_39 with ⟨u80, p80, vW80, rfl, rfl, gW80, gV80, gA80, gB80, gF80⟩ | ⟨vX80, x80, rfl, rfl, gX80, gA80, gB80, gF80⟩
          · show WW κ 0 0 [(a 0, mO a vW80), (a 7, aI (kG κ) 60 f7), (a 41, aI (kG κ) 64 f41)] 83 [(2, .int (nI (sg P (a0 + 1) - 48))), (1, .int (nI (sg P a0))), (0, .ref (a 0))] [.int (nI u80)]
            have gG80 : FRM v vW80 := gG74.trans gF80
            have g880 := gG80.2.1.trans h8
            have gC80 := gG80.2.2.2.trans h42
            have gL80 := nmP_le gW80
            refine w_istore_n (nx := 84) (lo2 := [(3, .int (nI u80)), (2, .int (nI (sg P (a0 + 1) - 48))), (1, .int (nI (sg P a0))), (0, .ref (a 0))]) C dX9_readsStatement_83 rfl rfl (by decide) rfl ?_
            refine w_iconst (nx := 85) C (nI 0) dX9_readsStatement_84 rfl (by decide) ?_
            refine w_istore (nx := 87) (lo2 := [(4, .int (nI 0)), (3, .int (nI u80)), (2, .int (nI (sg P (a0 + 1) - 48))), (1, .int (nI (sg P a0))), (0, .ref (a 0))]) C dX9_readsStatement_85 rfl (by decide) rfl ?_
            refine w_iload_n (nx := 88) C 3 dX9_readsStatement_87 rfl rfl rfl ?_
            refine w_bipush (nx := 90) C (nI 100) dX9_readsStatement_88 rfl (by decide) ?_
            refine n_icmp_eq (tg := 124) (nx := 93) C dX9_readsStatement_90 rfl rfl (by omega) (by omega) (fun h_40 => ?_) (fun h_40 => ?_)
            · exfalso; omega
            · refine w_iload_n (nx := 94) C 3 dX9_readsStatement_93 rfl rfl rfl ?_
              refine w_bipush (nx := 96) C (nI 108) dX9_readsStatement_94 rfl (by decide) ?_
              refine n_icmp_ne (tg := 104) (nx := 99) C dX9_readsStatement_96 rfl rfl (by omega) (by omega) (fun h_41 => ?_) (fun h_41 => ?_)
              · refine w_bipush (nx := 106) C (nI 43) dX9_readsStatement_104 rfl (by decide) ?_
                refine w_istore (nx := 108) (lo2 := [(5, .int (nI 43)), (4, .int (nI 0)), (3, .int (nI u80)), (2, .int (nI (sg P (a0 + 1) - 48))), (1, .int (nI (sg P a0))), (0, .ref (a 0))]) C dX9_readsStatement_106 rfl (by decide) rfl ?_
                refine w_aload_n (nx := 109) C 5 dX9_readsStatement_108 rfl rfl rfl ?_
                refine w_iload (nx := 111) C 0 dX9_readsStatement_109 rfl rfl ?_
                refine w_iload (nx := 113) C 0 dX9_readsStatement_111 rfl rfl ?_
                refine w_callV (nx := 116) (wr := [(a 41, aI (kG κ) 64 f41)]) (rest := []) C mi_X9_takes (c_X9_takes_w _ _ a vW80 f7 P p80 43 43 ((by first | assumption | exact h8 | rfl)) (by first | assumption | omega) (by first | assumption | omega) ((by first | assumption | rfl)) ((by omega)) (by first | assumption | omega) (by first | assumption | omega) ((by first | assumption | rfl))) 0 dX9_readsStatement_113 rfl wl_X9_246 rfl rfl rfl (pm_sel [0, 1, 2] 3 (by decide +kernel) rfl rfl) rfl rfl (Nat.le_of_ble_eq_true rfl) (Nat.le_of_ble_eq_true rfl) (Nat.le_of_ble_eq_true rfl) (Nat.zero_le _) (Nat.zero_le _) (fun v9 w9 R_42 => ?_)
                rcases R_42 with ⟨vW113, rfl, rfl, gW113, gV113, gA113, gB113, gF113⟩ | ⟨vX113, x113, rfl, rfl, gX113, gA113, gB113, gF113⟩
                · show WW κ 0 0 [(a 0, mO a vW113), (a 7, aI (kG κ) 60 f7), (a 41, aI (kG κ) 64 f41)] 116 [(5, .int (nI 43)), (4, .int (nI 0)), (3, .int (nI u80)), (2, .int (nI (sg P (a0 + 1) - 48))), (1, .int (nI (sg P a0))), (0, .ref (a 0))] [.int (nI (sg P p80 - 43))]
                  have gG113 : FRM v vW113 := gG80.trans gF113
                  have g8113 := gG113.2.1.trans h8
                  have gC113 := gG113.2.2.2.trans h42
                  have gL113 : (p80 + 1) ≤ P.1 := sg_lt (P := P) (a := p80) (by omega)
                  refine w_pop (nx := 117) C dX9_readsStatement_116 rfl rfl ?_
                  refine w_aload_n (nx := 118) C 5 dX9_readsStatement_117 rfl rfl rfl ?_
                  refine w_iconst (nx := 119) C (nI 3) dX9_readsStatement_118 rfl (by decide) ?_
                  refine w_callV (nx := 122) (wr := [(a 41, aI (kG κ) 64 f41)]) (rest := []) C mi_X9_number (c_X9_number_w3 _ _ a vW113 f7 P (p80 + 1) ((by first | assumption | exact h8 | rfl)) (by first | assumption | omega) (by first | assumption | omega) ((by first | assumption | rfl)) ((by omega)) ((by first | assumption | rfl))) 0 dX9_readsStatement_119 rfl wl_X9_249 rfl rfl rfl (pm_sel [0, 1, 2] 3 (by decide +kernel) rfl rfl) rfl rfl (Nat.le_of_ble_eq_true rfl) (Nat.le_of_ble_eq_true rfl) (Nat.le_of_ble_eq_true rfl) (Nat.zero_le _) (Nat.zero_le _) (fun v9 w9 R_43 => ?_)
                  rcases R_43 with ⟨u119, p119, vW119, rfl, rfl, gW119, gV119, gA119, gB119, gF119⟩ | ⟨vX119, x119, rfl, rfl, gX119, gA119, gB119, gF119⟩
                  · show WW κ 0 0 [(a 0, mO a vW119), (a 7, aI (kG κ) 60 f7), (a 41, aI (kG κ) 64 f41)] 122 [(5, .int (nI 43)), (4, .int (nI 0)), (3, .int (nI u80)), (2, .int (nI (sg P (a0 + 1) - 48))), (1, .int (nI (sg P a0))), (0, .ref (a 0))] [.int (nI u119)]
                    have gG119 : FRM v vW119 := gG113.trans gF119
                    have g8119 := gG119.2.1.trans h8
                    have gC119 := gG119.2.2.2.trans h42
                    have gL119 := nmP_le gW119
                    refine w_istore (nx := 124) (lo2 := [(4, .int (nI u119)), (5, .int (nI 43)), (3, .int (nI u80)), (2, .int (nI (sg P (a0 + 1) - 48))), (1, .int (nI (sg P a0))), (0, .ref (a 0))]) C dX9_readsStatement_122 rfl (by decide) rfl ?_
                    refine w_aload_n (nx := 125) C 5 dX9_readsStatement_124 rfl rfl rfl ?_
                    refine w_getM (nx := 128) C (.int (vW119 40)) 0 40 dX9_readsStatement_125 rfl wl_X9_239 rfl (by decide) rfl (mg_40 _ _) ?_
                    refine w_top (nI 1) gA119 ?_
                    refine w_if_eq (tg := 216) (nx := 131) C dX9_readsStatement_128 rfl rfl (fun q9 => absurd q9 (by decide)) (fun _ => ?_)
                    refine w_aload_n (nx := 132) C 5 dX9_readsStatement_131 rfl rfl rfl ?_
                    refine w_getM (nx := 135) C (.ref (a 41)) 0 41 dX9_readsStatement_132 rfl wl_X9_87 rfl (by decide) rfl (mg_41 _ _) ?_
                    refine w_iconst (nx := 136) C (nI 4) dX9_readsStatement_135 rfl (by decide) ?_
                    refine w_aload_n (nx := 137) C 5 dX9_readsStatement_136 rfl rfl rfl ?_
                    refine w_getM (nx := 140) C (.int (vW119 42)) 0 42 dX9_readsStatement_137 rfl wl_X9_252 rfl (by decide) rfl (mg_42 _ _) ?_
                    refine w_top (nI lq.1) gC119 ?_
                    refine w_imul (nx := 141) C (nI (4 * lq.1)) dX9_readsStatement_140 rfl (pk_mul _ _) ?_
                    refine w_iload_n (nx := 142) C 4 dX9_readsStatement_141 rfl rfl rfl ?_
                    refine w_bipush (nx := 144) C (nI 108) dX9_readsStatement_142 rfl (by decide) ?_
                    refine n_icmp_ne (tg := 151) (nx := 147) C dX9_readsStatement_144 rfl rfl (by omega) (by omega) (fun h_45 => ?_) (fun h_45 => ?_)
                    · refine w_iload_n (nx := 152) C 4 dX9_readsStatement_151 rfl rfl rfl ?_
                      refine w_bipush (nx := 154) C (nI 97) dX9_readsStatement_152 rfl (by decide) ?_
                      refine n_icmp_ne (tg := 161) (nx := 157) C dX9_readsStatement_154 rfl rfl (by omega) (by omega) (fun h_46 => ?_) (fun h_46 => ?_)
                      · exfalso; omega
                      · refine w_iconst (nx := 158) C (nI 1) dX9_readsStatement_157 rfl (by decide) ?_
                        refine w_goto (nx := 162) C dX9_readsStatement_158 rfl ?_
                        refine w_iast (nx := 163) (ws2 := [(a 0, mO a vW119), (a 7, aI (kG κ) 60 f7), (a 41, aI (kG κ) 64 (upd f41 (4 * lq.1) (nI 1)))]) C 2 (4 * lq.1) dX9_readsStatement_162 rfl rfl (by decide) rfl (by omega) rfl ?_
                        refine w_aload_n (nx := 164) C 5 dX9_readsStatement_163 rfl rfl rfl ?_
                        refine w_getM (nx := 167) C (.ref (a 41)) 0 41 dX9_readsStatement_164 rfl wl_X9_87 rfl (by decide) rfl (mg_41 _ _) ?_
                        refine w_iconst (nx := 168) C (nI 4) dX9_readsStatement_167 rfl (by decide) ?_
                        refine w_aload_n (nx := 169) C 5 dX9_readsStatement_168 rfl rfl rfl ?_
                        refine w_getM (nx := 172) C (.int (vW119 42)) 0 42 dX9_readsStatement_169 rfl wl_X9_252 rfl (by decide) rfl (mg_42 _ _) ?_
                        refine w_top (nI lq.1) gC119 ?_
                        refine w_imul (nx := 173) C (nI (4 * lq.1)) dX9_readsStatement_172 rfl (pk_mul _ _) ?_
                        refine w_iconst (nx := 174) C (nI 1) dX9_readsStatement_173 rfl (by decide) ?_
                        refine w_iadd (nx := 175) C (nI (4 * lq.1 + 1)) dX9_readsStatement_174 rfl (nI_add _ _) ?_
                        refine w_iload_n (nx := 176) C 3 dX9_readsStatement_175 rfl rfl rfl ?_
                        refine w_iast (nx := 177) (ws2 := [(a 0, mO a vW119), (a 7, aI (kG κ) 60 f7), (a 41, aI (kG κ) 64 (upd (upd f41 (4 * lq.1) (nI 1)) (4 * lq.1 + 1) (nI (sg P (a0 + 1) - 48))))]) C 2 (4 * lq.1 + 1) dX9_readsStatement_176 rfl rfl (by decide) rfl (by omega) rfl ?_
                        refine w_aload_n (nx := 178) C 5 dX9_readsStatement_177 rfl rfl rfl ?_
                        refine w_getM (nx := 181) C (.ref (a 41)) 0 41 dX9_readsStatement_178 rfl wl_X9_87 rfl (by decide) rfl (mg_41 _ _) ?_
                        refine w_iconst (nx := 182) C (nI 4) dX9_readsStatement_181 rfl (by decide) ?_
                        refine w_aload_n (nx := 183) C 5 dX9_readsStatement_182 rfl rfl rfl ?_
                        refine w_getM (nx := 186) C (.int (vW119 42)) 0 42 dX9_readsStatement_183 rfl wl_X9_252 rfl (by decide) rfl (mg_42 _ _) ?_
                        refine w_top (nI lq.1) gC119 ?_
                        refine w_imul (nx := 187) C (nI (4 * lq.1)) dX9_readsStatement_186 rfl (pk_mul _ _) ?_
                        refine w_iconst (nx := 188) C (nI 2) dX9_readsStatement_187 rfl (by decide) ?_
                        refine w_iadd (nx := 189) C (nI (4 * lq.1 + 2)) dX9_readsStatement_188 rfl (nI_add _ _) ?_
                        refine w_iload_n (nx := 190) C 2 dX9_readsStatement_189 rfl rfl rfl ?_
                        refine w_iast (nx := 191) (ws2 := [(a 0, mO a vW119), (a 7, aI (kG κ) 60 f7), (a 41, aI (kG κ) 64 (upd (upd (upd f41 (4 * lq.1) (nI 1)) (4 * lq.1 + 1) (nI (sg P (a0 + 1) - 48))) (4 * lq.1 + 2) (nI u80)))]) C 2 (4 * lq.1 + 2) dX9_readsStatement_190 rfl rfl (by decide) rfl (by omega) rfl ?_
                        refine w_aload_n (nx := 192) C 5 dX9_readsStatement_191 rfl rfl rfl ?_
                        refine w_getM (nx := 195) C (.ref (a 41)) 0 41 dX9_readsStatement_192 rfl wl_X9_87 rfl (by decide) rfl (mg_41 _ _) ?_
                        refine w_iconst (nx := 196) C (nI 4) dX9_readsStatement_195 rfl (by decide) ?_
                        refine w_aload_n (nx := 197) C 5 dX9_readsStatement_196 rfl rfl rfl ?_
                        refine w_getM (nx := 200) C (.int (vW119 42)) 0 42 dX9_readsStatement_197 rfl wl_X9_252 rfl (by decide) rfl (mg_42 _ _) ?_
                        refine w_top (nI lq.1) gC119 ?_
                        refine w_imul (nx := 201) C (nI (4 * lq.1)) dX9_readsStatement_200 rfl (pk_mul _ _) ?_
                        refine w_iconst (nx := 202) C (nI 3) dX9_readsStatement_201 rfl (by decide) ?_
                        refine w_iadd (nx := 203) C (nI (4 * lq.1 + 3)) dX9_readsStatement_202 rfl (nI_add _ _) ?_
                        refine w_iload (nx := 205) C 0 dX9_readsStatement_203 rfl rfl ?_
                        refine w_iast (nx := 206) (ws2 := [(a 0, mO a vW119), (a 7, aI (kG κ) 60 f7), (a 41, aI (kG κ) 64 (upd (upd (upd (upd f41 (4 * lq.1) (nI 1)) (4 * lq.1 + 1) (nI (sg P (a0 + 1) - 48))) (4 * lq.1 + 2) (nI u80)) (4 * lq.1 + 3) (nI u119)))]) C 2 (4 * lq.1 + 3) dX9_readsStatement_205 rfl rfl (by decide) rfl (by omega) rfl ?_
                        refine w_aload_n (nx := 207) C 5 dX9_readsStatement_206 rfl rfl rfl ?_
                        refine w_dup (nx := 208) C dX9_readsStatement_207 rfl rfl ?_
                        refine w_getM (nx := 211) C (.int (vW119 42)) 0 42 dX9_readsStatement_208 rfl wl_X9_252 rfl (by decide) rfl (mg_42 _ _) ?_
                        refine w_top (nI lq.1) gC119 ?_
                        refine w_iconst (nx := 212) C (nI 1) dX9_readsStatement_211 rfl (by decide) ?_
                        refine w_iadd (nx := 213) C (nI (lq.1 + 1)) dX9_readsStatement_212 rfl (nI_add _ _) ?_
                        refine w_putM (nx := 216) (ws2 := [(a 0, mO a (upd vW119 42 (nI (lq.1 + 1)))), (a 7, aI (kG κ) 60 f7), (a 41, aI (kG κ) 64 (upd (upd (upd (upd f41 (4 * lq.1) (nI 1)) (4 * lq.1 + 1) (nI (sg P (a0 + 1) - 48))) (4 * lq.1 + 2) (nI u80)) (4 * lq.1 + 3) (nI u119)))]) C 0 42 dX9_readsStatement_213 rfl wl_X9_252 rfl (by decide) rfl rfl rfl (ms_42 _ _ _) rfl ?_
                        exact w_vret C E dX9_readsStatement_216 rfl (Nat.le_refl _) (Nat.le_refl _) (Or.inl ⟨(1, sg P (a0 + 1) - 48, u80, u119), p119, _, _, rfl, rfl, (by have z9 := stm_8 (Or.inr hlt) nmt (by omega) gW80 (by rw [hlt]; rw [if_neg (by decide)]; omega) gW119; rw [hlt] at z9; exact z9), (gA119), (gB119), (rfl), (gG119.to3), (rQ_psh2 hQ (by decide) (by omega) (by omega) (by omega))⟩)
                    · exfalso; omega
                  · show WW κ 0 0 [(a 0, mO a vX119), (a 7, aI (kG κ) 60 f7), (a 41, aI (kG κ) 64 f41)] 122 [(5, .int (nI 43)), (4, .int (nI 0)), (3, .int (nI u80)), (2, .int (nI (sg P (a0 + 1) - 48))), (1, .int (nI (sg P a0))), (0, .ref (a 0))] [.int x119]
                    have gG119 : FRM v vX119 := gG113.trans gF119
                    have g8119 := gG119.2.1.trans h8
                    have gC119 := gG119.2.2.2.trans h42
                    refine w_istore (nx := 124) (lo2 := [(4, .int x119), (5, .int (nI 43)), (3, .int (nI u80)), (2, .int (nI (sg P (a0 + 1) - 48))), (1, .int (nI (sg P a0))), (0, .ref (a 0))]) C dX9_readsStatement_122 rfl (by decide) rfl ?_
                    refine w_aload_n (nx := 125) C 5 dX9_readsStatement_124 rfl rfl rfl ?_
                    refine w_getM (nx := 128) C (.int (vX119 40)) 0 40 dX9_readsStatement_125 rfl wl_X9_239 rfl (by decide) rfl (mg_40 _ _) ?_
                    refine w_top (nI 0) gA119 ?_
                    refine w_if_eq (tg := 216) (nx := 131) C dX9_readsStatement_128 rfl rfl (fun _ => ?_) (fun q9 => absurd (by decide) q9)
                    exact w_vret C E dX9_readsStatement_216 rfl (Nat.le_refl _) (Nat.le_refl _) (Or.inr (⟨(p80 + 1), _, rfl, rfl, (stm_7 (Or.inr hlt) nmt (by omega) gW80 (by rw [hlt]; rw [if_neg (by decide)]; omega) gX119), (gA119), (gB119), (gG119.to3)⟩))
                · show WW κ 0 0 [(a 0, mO a vX113), (a 7, aI (kG κ) 60 f7), (a 41, aI (kG κ) 64 f41)] 116 [(5, .int (nI 43)), (4, .int (nI 0)), (3, .int (nI u80)), (2, .int (nI (sg P (a0 + 1) - 48))), (1, .int (nI (sg P a0))), (0, .ref (a 0))] [.int x113]
                  have gG113 : FRM v vX113 := gG80.trans gF113
                  have g8113 := gG113.2.1.trans h8
                  have gC113 := gG113.2.2.2.trans h42
                  refine w_pop (nx := 117) C dX9_readsStatement_116 rfl rfl ?_
                  refine w_aload_n (nx := 118) C 5 dX9_readsStatement_117 rfl rfl rfl ?_
                  refine w_iconst (nx := 119) C (nI 3) dX9_readsStatement_118 rfl (by decide) ?_
                  refine w_callV (nx := 122) (wr := [(a 41, aI (kG κ) 64 f41)]) (rest := []) C mi_X9_number (c_X9_number_n _ _ a vX113 f7 P p80 3 ((by first | assumption | exact h8 | rfl)) (by first | assumption | omega) (by first | assumption | omega) ((by first | assumption | rfl)) ((by omega)) ((by first | assumption | rfl)) (by first | assumption | omega) (by first | assumption | omega)) 0 dX9_readsStatement_119 rfl wl_X9_249 rfl rfl rfl (pm_sel [0, 1, 2] 3 (by decide +kernel) rfl rfl) rfl rfl (Nat.le_of_ble_eq_true rfl) (Nat.le_of_ble_eq_true rfl) (Nat.le_of_ble_eq_true rfl) (Nat.zero_le _) (Nat.zero_le _) (fun v9 w9 R_48 => ?_)
                  obtain ⟨vX119, x119, rfl, rfl, gA119, gB119, gF119⟩ := R_48
                  show WW κ 0 0 [(a 0, mO a vX119), (a 7, aI (kG κ) 60 f7), (a 41, aI (kG κ) 64 f41)] 122 [(5, .int (nI 43)), (4, .int (nI 0)), (3, .int (nI u80)), (2, .int (nI (sg P (a0 + 1) - 48))), (1, .int (nI (sg P a0))), (0, .ref (a 0))] [.int x119]
                  have gG119 : FRM v vX119 := gG113.trans gF119
                  have g8119 := gG119.2.1.trans h8
                  have gC119 := gG119.2.2.2.trans h42
                  refine w_istore (nx := 124) (lo2 := [(4, .int x119), (5, .int (nI 43)), (3, .int (nI u80)), (2, .int (nI (sg P (a0 + 1) - 48))), (1, .int (nI (sg P a0))), (0, .ref (a 0))]) C dX9_readsStatement_122 rfl (by decide) rfl ?_
                  refine w_aload_n (nx := 125) C 5 dX9_readsStatement_124 rfl rfl rfl ?_
                  refine w_getM (nx := 128) C (.int (vX119 40)) 0 40 dX9_readsStatement_125 rfl wl_X9_239 rfl (by decide) rfl (mg_40 _ _) ?_
                  refine w_top (nI 0) gA119 ?_
                  refine w_if_eq (tg := 216) (nx := 131) C dX9_readsStatement_128 rfl rfl (fun _ => ?_) (fun q9 => absurd (by decide) q9)
                  exact w_vret C E dX9_readsStatement_216 rfl (Nat.le_refl _) (Nat.le_refl _) (Or.inr (⟨p80, _, rfl, rfl, (stm_6 (Or.inr hlt) nmt (by omega) gW80 (by rw [hlt]; rw [if_neg (by decide)]; omega)), (gA119), (gB119), (gG119.to3)⟩))
              · exfalso; omega
          · show WW κ 0 0 [(a 0, mO a vX80), (a 7, aI (kG κ) 60 f7), (a 41, aI (kG κ) 64 f41)] 83 [(2, .int (nI (sg P (a0 + 1) - 48))), (1, .int (nI (sg P a0))), (0, .ref (a 0))] [.int x80]
            have gG80 : FRM v vX80 := gG74.trans gF80
            have g880 := gG80.2.1.trans h8
            have gC80 := gG80.2.2.2.trans h42
            refine w_istore_n (nx := 84) (lo2 := [(3, .int x80), (2, .int (nI (sg P (a0 + 1) - 48))), (1, .int (nI (sg P a0))), (0, .ref (a 0))]) C dX9_readsStatement_83 rfl rfl (by decide) rfl ?_
            refine w_iconst (nx := 85) C (nI 0) dX9_readsStatement_84 rfl (by decide) ?_
            refine w_istore (nx := 87) (lo2 := [(4, .int (nI 0)), (3, .int x80), (2, .int (nI (sg P (a0 + 1) - 48))), (1, .int (nI (sg P a0))), (0, .ref (a 0))]) C dX9_readsStatement_85 rfl (by decide) rfl ?_
            refine w_iload_n (nx := 88) C 3 dX9_readsStatement_87 rfl rfl rfl ?_
            refine w_bipush (nx := 90) C (nI 100) dX9_readsStatement_88 rfl (by decide) ?_
            refine n_icmp_eq (tg := 124) (nx := 93) C dX9_readsStatement_90 rfl rfl (by omega) (by omega) (fun h_50 => ?_) (fun h_50 => ?_)
            · exfalso; omega
            · refine w_iload_n (nx := 94) C 3 dX9_readsStatement_93 rfl rfl rfl ?_
              refine w_bipush (nx := 96) C (nI 108) dX9_readsStatement_94 rfl (by decide) ?_
              refine n_icmp_ne (tg := 104) (nx := 99) C dX9_readsStatement_96 rfl rfl (by omega) (by omega) (fun h_51 => ?_) (fun h_51 => ?_)
              · refine w_bipush (nx := 106) C (nI 43) dX9_readsStatement_104 rfl (by decide) ?_
                refine w_istore (nx := 108) (lo2 := [(5, .int (nI 43)), (4, .int (nI 0)), (3, .int x80), (2, .int (nI (sg P (a0 + 1) - 48))), (1, .int (nI (sg P a0))), (0, .ref (a 0))]) C dX9_readsStatement_106 rfl (by decide) rfl ?_
                refine w_aload_n (nx := 109) C 5 dX9_readsStatement_108 rfl rfl rfl ?_
                refine w_iload (nx := 111) C 0 dX9_readsStatement_109 rfl rfl ?_
                refine w_iload (nx := 113) C 0 dX9_readsStatement_111 rfl rfl ?_
                refine w_callV (nx := 116) (wr := [(a 41, aI (kG κ) 64 f41)]) (rest := []) C mi_X9_takes (c_X9_takes_n _ _ a vX80 f7 P (a0 + 1 + 1 + 1) 43 43 ((by first | assumption | exact h8 | rfl)) (by first | assumption | omega) (by first | assumption | omega) ((by first | assumption | rfl)) ((by omega)) (by first | assumption | omega) (by first | assumption | omega) ((by first | assumption | rfl))) 0 dX9_readsStatement_113 rfl wl_X9_246 rfl rfl rfl (pm_sel [0, 1, 2] 3 (by decide +kernel) rfl rfl) rfl rfl (Nat.le_of_ble_eq_true rfl) (Nat.le_of_ble_eq_true rfl) (Nat.le_of_ble_eq_true rfl) (Nat.zero_le _) (Nat.zero_le _) (fun v9 w9 R_52 => ?_)
                obtain ⟨vX113, x113, rfl, rfl, gA113, gB113, gF113⟩ := R_52
                show WW κ 0 0 [(a 0, mO a vX113), (a 7, aI (kG κ) 60 f7), (a 41, aI (kG κ) 64 f41)] 116 [(5, .int (nI 43)), (4, .int (nI 0)), (3, .int x80), (2, .int (nI (sg P (a0 + 1) - 48))), (1, .int (nI (sg P a0))), (0, .ref (a 0))] [.int x113]
                have gG113 : FRM v vX113 := gG80.trans gF113
                have g8113 := gG113.2.1.trans h8
                have gC113 := gG113.2.2.2.trans h42
                refine w_pop (nx := 117) C dX9_readsStatement_116 rfl rfl ?_
                refine w_aload_n (nx := 118) C 5 dX9_readsStatement_117 rfl rfl rfl ?_
                refine w_iconst (nx := 119) C (nI 3) dX9_readsStatement_118 rfl (by decide) ?_
                refine w_callV (nx := 122) (wr := [(a 41, aI (kG κ) 64 f41)]) (rest := []) C mi_X9_number (c_X9_number_n _ _ a vX113 f7 P (a0 + 1 + 1 + 1) 3 ((by first | assumption | exact h8 | rfl)) (by first | assumption | omega) (by first | assumption | omega) ((by first | assumption | rfl)) ((by omega)) ((by first | assumption | rfl)) (by first | assumption | omega) (by first | assumption | omega)) 0 dX9_readsStatement_119 rfl wl_X9_249 rfl rfl rfl (pm_sel [0, 1, 2] 3 (by decide +kernel) rfl rfl) rfl rfl (Nat.le_of_ble_eq_true rfl) (Nat.le_of_ble_eq_true rfl) (Nat.le_of_ble_eq_true rfl) (Nat.zero_le _) (Nat.zero_le _) (fun v9 w9 R_53 => ?_)
                obtain ⟨vX119, x119, rfl, rfl, gA119, gB119, gF119⟩ := R_53
                show WW κ 0 0 [(a 0, mO a vX119), (a 7, aI (kG κ) 60 f7), (a 41, aI (kG κ) 64 f41)] 122 [(5, .int (nI 43)), (4, .int (nI 0)), (3, .int x80), (2, .int (nI (sg P (a0 + 1) - 48))), (1, .int (nI (sg P a0))), (0, .ref (a 0))] [.int x119]
                have gG119 : FRM v vX119 := gG113.trans gF119
                have g8119 := gG119.2.1.trans h8
                have gC119 := gG119.2.2.2.trans h42
                refine w_istore (nx := 124) (lo2 := [(4, .int x119), (5, .int (nI 43)), (3, .int x80), (2, .int (nI (sg P (a0 + 1) - 48))), (1, .int (nI (sg P a0))), (0, .ref (a 0))]) C dX9_readsStatement_122 rfl (by decide) rfl ?_
                refine w_aload_n (nx := 125) C 5 dX9_readsStatement_124 rfl rfl rfl ?_
                refine w_getM (nx := 128) C (.int (vX119 40)) 0 40 dX9_readsStatement_125 rfl wl_X9_239 rfl (by decide) rfl (mg_40 _ _) ?_
                refine w_top (nI 0) gA119 ?_
                refine w_if_eq (tg := 216) (nx := 131) C dX9_readsStatement_128 rfl rfl (fun _ => ?_) (fun q9 => absurd (by decide) q9)
                exact w_vret C E dX9_readsStatement_216 rfl (Nat.le_refl _) (Nat.le_refl _) (Or.inr (⟨(a0 + 1 + 1 + 1), _, rfl, rfl, (stm_4 (Or.inr (Or.inl hlt)) nmt (by omega) gX80), (gA119), (gB119), (gG119.to3)⟩))
              · exfalso; omega
        · show WW κ 0 0 [(a 0, mO a vX74), (a 7, aI (kG κ) 60 f7), (a 41, aI (kG κ) 64 f41)] 77 [(2, .int (nI (sg P (a0 + 1) - 48))), (1, .int (nI (sg P a0))), (0, .ref (a 0))] [.int x74]
          have gG74 : FRM v vX74 := gG65.trans gF74
          have g874 := gG74.2.1.trans h8
          have gC74 := gG74.2.2.2.trans h42
          refine w_pop (nx := 78) C dX9_readsStatement_77 rfl rfl ?_
          refine w_aload_n (nx := 79) C 2 dX9_readsStatement_78 rfl rfl rfl ?_
          refine w_iconst (nx := 80) C (nI 2) dX9_readsStatement_79 rfl (by decide) ?_
          refine w_callV (nx := 83) (wr := [(a 41, aI (kG κ) 64 f41)]) (rest := []) C mi_X9_number (c_X9_number_n _ _ a vX74 f7 P (a0 + 1 + 1) 2 ((by first | assumption | exact h8 | rfl)) (by first | assumption | omega) (by first | assumption | omega) ((by first | assumption | rfl)) ((by omega)) ((by first | assumption | rfl)) (by first | assumption | omega) (by first | assumption | omega)) 0 dX9_readsStatement_80 rfl wl_X9_249 rfl rfl rfl (pm_sel [0, 1, 2] 3 (by decide +kernel) rfl rfl) rfl rfl (Nat.le_of_ble_eq_true rfl) (Nat.le_of_ble_eq_true rfl) (Nat.le_of_ble_eq_true rfl) (Nat.zero_le _) (Nat.zero_le _) (fun v9 w9 R_55 => ?_)
          obtain ⟨vX80, x80, rfl, rfl, gA80, gB80, gF80⟩ := R_55
          show WW κ 0 0 [(a 0, mO a vX80), (a 7, aI (kG κ) 60 f7), (a 41, aI (kG κ) 64 f41)] 83 [(2, .int (nI (sg P (a0 + 1) - 48))), (1, .int (nI (sg P a0))), (0, .ref (a 0))] [.int x80]
          have gG80 : FRM v vX80 := gG74.trans gF80
          have g880 := gG80.2.1.trans h8
          have gC80 := gG80.2.2.2.trans h42
          refine w_istore_n (nx := 84) (lo2 := [(3, .int x80), (2, .int (nI (sg P (a0 + 1) - 48))), (1, .int (nI (sg P a0))), (0, .ref (a 0))]) C dX9_readsStatement_83 rfl rfl (by decide) rfl ?_
          refine w_iconst (nx := 85) C (nI 0) dX9_readsStatement_84 rfl (by decide) ?_
          refine w_istore (nx := 87) (lo2 := [(4, .int (nI 0)), (3, .int x80), (2, .int (nI (sg P (a0 + 1) - 48))), (1, .int (nI (sg P a0))), (0, .ref (a 0))]) C dX9_readsStatement_85 rfl (by decide) rfl ?_
          refine w_iload_n (nx := 88) C 3 dX9_readsStatement_87 rfl rfl rfl ?_
          refine w_bipush (nx := 90) C (nI 100) dX9_readsStatement_88 rfl (by decide) ?_
          refine n_icmp_eq (tg := 124) (nx := 93) C dX9_readsStatement_90 rfl rfl (by omega) (by omega) (fun h_56 => ?_) (fun h_56 => ?_)
          · exfalso; omega
          · refine w_iload_n (nx := 94) C 3 dX9_readsStatement_93 rfl rfl rfl ?_
            refine w_bipush (nx := 96) C (nI 108) dX9_readsStatement_94 rfl (by decide) ?_
            refine n_icmp_ne (tg := 104) (nx := 99) C dX9_readsStatement_96 rfl rfl (by omega) (by omega) (fun h_57 => ?_) (fun h_57 => ?_)
            · refine w_bipush (nx := 106) C (nI 43) dX9_readsStatement_104 rfl (by decide) ?_
              refine w_istore (nx := 108) (lo2 := [(5, .int (nI 43)), (4, .int (nI 0)), (3, .int x80), (2, .int (nI (sg P (a0 + 1) - 48))), (1, .int (nI (sg P a0))), (0, .ref (a 0))]) C dX9_readsStatement_106 rfl (by decide) rfl ?_
              refine w_aload_n (nx := 109) C 5 dX9_readsStatement_108 rfl rfl rfl ?_
              refine w_iload (nx := 111) C 0 dX9_readsStatement_109 rfl rfl ?_
              refine w_iload (nx := 113) C 0 dX9_readsStatement_111 rfl rfl ?_
              refine w_callV (nx := 116) (wr := [(a 41, aI (kG κ) 64 f41)]) (rest := []) C mi_X9_takes (c_X9_takes_n _ _ a vX80 f7 P (a0 + 1 + 1) 43 43 ((by first | assumption | exact h8 | rfl)) (by first | assumption | omega) (by first | assumption | omega) ((by first | assumption | rfl)) ((by omega)) (by first | assumption | omega) (by first | assumption | omega) ((by first | assumption | rfl))) 0 dX9_readsStatement_113 rfl wl_X9_246 rfl rfl rfl (pm_sel [0, 1, 2] 3 (by decide +kernel) rfl rfl) rfl rfl (Nat.le_of_ble_eq_true rfl) (Nat.le_of_ble_eq_true rfl) (Nat.le_of_ble_eq_true rfl) (Nat.zero_le _) (Nat.zero_le _) (fun v9 w9 R_58 => ?_)
              obtain ⟨vX113, x113, rfl, rfl, gA113, gB113, gF113⟩ := R_58
              show WW κ 0 0 [(a 0, mO a vX113), (a 7, aI (kG κ) 60 f7), (a 41, aI (kG κ) 64 f41)] 116 [(5, .int (nI 43)), (4, .int (nI 0)), (3, .int x80), (2, .int (nI (sg P (a0 + 1) - 48))), (1, .int (nI (sg P a0))), (0, .ref (a 0))] [.int x113]
              have gG113 : FRM v vX113 := gG80.trans gF113
              have g8113 := gG113.2.1.trans h8
              have gC113 := gG113.2.2.2.trans h42
              refine w_pop (nx := 117) C dX9_readsStatement_116 rfl rfl ?_
              refine w_aload_n (nx := 118) C 5 dX9_readsStatement_117 rfl rfl rfl ?_
              refine w_iconst (nx := 119) C (nI 3) dX9_readsStatement_118 rfl (by decide) ?_
              refine w_callV (nx := 122) (wr := [(a 41, aI (kG κ) 64 f41)]) (rest := []) C mi_X9_number (c_X9_number_n _ _ a vX113 f7 P (a0 + 1 + 1) 3 ((by first | assumption | exact h8 | rfl)) (by first | assumption | omega) (by first | assumption | omega) ((by first | assumption | rfl)) ((by omega)) ((by first | assumption | rfl)) (by first | assumption | omega) (by first | assumption | omega)) 0 dX9_readsStatement_119 rfl wl_X9_249 rfl rfl rfl (pm_sel [0, 1, 2] 3 (by decide +kernel) rfl rfl) rfl rfl (Nat.le_of_ble_eq_true rfl) (Nat.le_of_ble_eq_true rfl) (Nat.le_of_ble_eq_true rfl) (Nat.zero_le _) (Nat.zero_le _) (fun v9 w9 R_59 => ?_)
              obtain ⟨vX119, x119, rfl, rfl, gA119, gB119, gF119⟩ := R_59
              show WW κ 0 0 [(a 0, mO a vX119), (a 7, aI (kG κ) 60 f7), (a 41, aI (kG κ) 64 f41)] 122 [(5, .int (nI 43)), (4, .int (nI 0)), (3, .int x80), (2, .int (nI (sg P (a0 + 1) - 48))), (1, .int (nI (sg P a0))), (0, .ref (a 0))] [.int x119]
              have gG119 : FRM v vX119 := gG113.trans gF119
              have g8119 := gG119.2.1.trans h8
              have gC119 := gG119.2.2.2.trans h42
              refine w_istore (nx := 124) (lo2 := [(4, .int x119), (5, .int (nI 43)), (3, .int x80), (2, .int (nI (sg P (a0 + 1) - 48))), (1, .int (nI (sg P a0))), (0, .ref (a 0))]) C dX9_readsStatement_122 rfl (by decide) rfl ?_
              refine w_aload_n (nx := 125) C 5 dX9_readsStatement_124 rfl rfl rfl ?_
              refine w_getM (nx := 128) C (.int (vX119 40)) 0 40 dX9_readsStatement_125 rfl wl_X9_239 rfl (by decide) rfl (mg_40 _ _) ?_
              refine w_top (nI 0) gA119 ?_
              refine w_if_eq (tg := 216) (nx := 131) C dX9_readsStatement_128 rfl rfl (fun _ => ?_) (fun q9 => absurd (by decide) q9)
              exact w_vret C E dX9_readsStatement_216 rfl (Nat.le_refl _) (Nat.le_refl _) (Or.inr (⟨(a0 + 1 + 1), _, rfl, rfl, (stm_3 (Or.inr (Or.inl hlt)) nmt (by omega)), (gA119), (gB119), (gG119.to3)⟩))
            · exfalso; omega
      · show WW κ 0 0 [(a 0, mO a vX65), (a 7, aI (kG κ) 60 f7), (a 41, aI (kG κ) 64 f41)] 68 [(1, .int (nI (sg P a0))), (0, .ref (a 0))] [.int x65]
        have gG65 : FRM v vX65 := FRM.trans (w := _) ⟨rfl, rfl, rfl, rfl⟩ gF65
        have g865 := gG65.2.1.trans h8
        have gC65 := gG65.2.2.2.trans h42
        refine w_istore_n (nx := 69) (lo2 := [(2, .int x65), (1, .int (nI (sg P a0))), (0, .ref (a 0))]) C dX9_readsStatement_68 rfl rfl (by decide) rfl ?_
        refine w_aload_n (nx := 70) C 2 dX9_readsStatement_69 rfl rfl rfl ?_
        refine w_bipush (nx := 72) C (nI 46) dX9_readsStatement_70 rfl (by decide) ?_
        refine w_bipush (nx := 74) C (nI 46) dX9_readsStatement_72 rfl (by decide) ?_
        refine w_callV (nx := 77) (wr := [(a 41, aI (kG κ) 64 f41)]) (rest := []) C mi_X9_takes (c_X9_takes_n _ _ a vX65 f7 P (a0 + 1) 46 46 ((by first | assumption | exact h8 | rfl)) (by first | assumption | omega) (by first | assumption | omega) ((by first | assumption | rfl)) ((by omega)) (by first | assumption | omega) (by first | assumption | omega) ((by first | assumption | rfl))) 0 dX9_readsStatement_74 rfl wl_X9_246 rfl rfl rfl (pm_sel [0, 1, 2] 3 (by decide +kernel) rfl rfl) rfl rfl (Nat.le_of_ble_eq_true rfl) (Nat.le_of_ble_eq_true rfl) (Nat.le_of_ble_eq_true rfl) (Nat.zero_le _) (Nat.zero_le _) (fun v9 w9 R_61 => ?_)
        obtain ⟨vX74, x74, rfl, rfl, gA74, gB74, gF74⟩ := R_61
        show WW κ 0 0 [(a 0, mO a vX74), (a 7, aI (kG κ) 60 f7), (a 41, aI (kG κ) 64 f41)] 77 [(2, .int x65), (1, .int (nI (sg P a0))), (0, .ref (a 0))] [.int x74]
        have gG74 : FRM v vX74 := gG65.trans gF74
        have g874 := gG74.2.1.trans h8
        have gC74 := gG74.2.2.2.trans h42
        refine w_pop (nx := 78) C dX9_readsStatement_77 rfl rfl ?_
        refine w_aload_n (nx := 79) C 2 dX9_readsStatement_78 rfl rfl rfl ?_
        refine w_iconst (nx := 80) C (nI 2) dX9_readsStatement_79 rfl (by decide) ?_
        refine w_callV (nx := 83) (wr := [(a 41, aI (kG κ) 64 f41)]) (rest := []) C mi_X9_number (c_X9_number_n _ _ a vX74 f7 P (a0 + 1) 2 ((by first | assumption | exact h8 | rfl)) (by first | assumption | omega) (by first | assumption | omega) ((by first | assumption | rfl)) ((by omega)) ((by first | assumption | rfl)) (by first | assumption | omega) (by first | assumption | omega)) 0 dX9_readsStatement_80 rfl wl_X9_249 rfl rfl rfl (pm_sel [0, 1, 2] 3 (by decide +kernel) rfl rfl) rfl rfl (Nat.le_of_ble_eq_true rfl) (Nat.le_of_ble_eq_true rfl) (Nat.le_of_ble_eq_true rfl) (Nat.zero_le _) (Nat.zero_le _) (fun v9 w9 R_62 => ?_)
        obtain ⟨vX80, x80, rfl, rfl, gA80, gB80, gF80⟩ := R_62
        show WW κ 0 0 [(a 0, mO a vX80), (a 7, aI (kG κ) 60 f7), (a 41, aI (kG κ) 64 f41)] 83 [(2, .int x65), (1, .int (nI (sg P a0))), (0, .ref (a 0))] [.int x80]
        have gG80 : FRM v vX80 := gG74.trans gF80
        have g880 := gG80.2.1.trans h8
        have gC80 := gG80.2.2.2.trans h42
        refine w_istore_n (nx := 84) (lo2 := [(3, .int x80), (2, .int x65), (1, .int (nI (sg P a0))), (0, .ref (a 0))]) C dX9_readsStatement_83 rfl rfl (by decide) rfl ?_
        refine w_iconst (nx := 85) C (nI 0) dX9_readsStatement_84 rfl (by decide) ?_
        refine w_istore (nx := 87) (lo2 := [(4, .int (nI 0)), (3, .int x80), (2, .int x65), (1, .int (nI (sg P a0))), (0, .ref (a 0))]) C dX9_readsStatement_85 rfl (by decide) rfl ?_
        refine w_iload_n (nx := 88) C 3 dX9_readsStatement_87 rfl rfl rfl ?_
        refine w_bipush (nx := 90) C (nI 100) dX9_readsStatement_88 rfl (by decide) ?_
        refine n_icmp_eq (tg := 124) (nx := 93) C dX9_readsStatement_90 rfl rfl (by omega) (by omega) (fun h_63 => ?_) (fun h_63 => ?_)
        · exfalso; omega
        · refine w_iload_n (nx := 94) C 3 dX9_readsStatement_93 rfl rfl rfl ?_
          refine w_bipush (nx := 96) C (nI 108) dX9_readsStatement_94 rfl (by decide) ?_
          refine n_icmp_ne (tg := 104) (nx := 99) C dX9_readsStatement_96 rfl rfl (by omega) (by omega) (fun h_64 => ?_) (fun h_64 => ?_)
          · refine w_bipush (nx := 106) C (nI 43) dX9_readsStatement_104 rfl (by decide) ?_
            refine w_istore (nx := 108) (lo2 := [(5, .int (nI 43)), (4, .int (nI 0)), (3, .int x80), (2, .int x65), (1, .int (nI (sg P a0))), (0, .ref (a 0))]) C dX9_readsStatement_106 rfl (by decide) rfl ?_
            refine w_aload_n (nx := 109) C 5 dX9_readsStatement_108 rfl rfl rfl ?_
            refine w_iload (nx := 111) C 0 dX9_readsStatement_109 rfl rfl ?_
            refine w_iload (nx := 113) C 0 dX9_readsStatement_111 rfl rfl ?_
            refine w_callV (nx := 116) (wr := [(a 41, aI (kG κ) 64 f41)]) (rest := []) C mi_X9_takes (c_X9_takes_n _ _ a vX80 f7 P (a0 + 1) 43 43 ((by first | assumption | exact h8 | rfl)) (by first | assumption | omega) (by first | assumption | omega) ((by first | assumption | rfl)) ((by omega)) (by first | assumption | omega) (by first | assumption | omega) ((by first | assumption | rfl))) 0 dX9_readsStatement_113 rfl wl_X9_246 rfl rfl rfl (pm_sel [0, 1, 2] 3 (by decide +kernel) rfl rfl) rfl rfl (Nat.le_of_ble_eq_true rfl) (Nat.le_of_ble_eq_true rfl) (Nat.le_of_ble_eq_true rfl) (Nat.zero_le _) (Nat.zero_le _) (fun v9 w9 R_65 => ?_)
            obtain ⟨vX113, x113, rfl, rfl, gA113, gB113, gF113⟩ := R_65
            show WW κ 0 0 [(a 0, mO a vX113), (a 7, aI (kG κ) 60 f7), (a 41, aI (kG κ) 64 f41)] 116 [(5, .int (nI 43)), (4, .int (nI 0)), (3, .int x80), (2, .int x65), (1, .int (nI (sg P a0))), (0, .ref (a 0))] [.int x113]
            have gG113 : FRM v vX113 := gG80.trans gF113
            have g8113 := gG113.2.1.trans h8
            have gC113 := gG113.2.2.2.trans h42
            refine w_pop (nx := 117) C dX9_readsStatement_116 rfl rfl ?_
            refine w_aload_n (nx := 118) C 5 dX9_readsStatement_117 rfl rfl rfl ?_
            refine w_iconst (nx := 119) C (nI 3) dX9_readsStatement_118 rfl (by decide) ?_
            refine w_callV (nx := 122) (wr := [(a 41, aI (kG κ) 64 f41)]) (rest := []) C mi_X9_number (c_X9_number_n _ _ a vX113 f7 P (a0 + 1) 3 ((by first | assumption | exact h8 | rfl)) (by first | assumption | omega) (by first | assumption | omega) ((by first | assumption | rfl)) ((by omega)) ((by first | assumption | rfl)) (by first | assumption | omega) (by first | assumption | omega)) 0 dX9_readsStatement_119 rfl wl_X9_249 rfl rfl rfl (pm_sel [0, 1, 2] 3 (by decide +kernel) rfl rfl) rfl rfl (Nat.le_of_ble_eq_true rfl) (Nat.le_of_ble_eq_true rfl) (Nat.le_of_ble_eq_true rfl) (Nat.zero_le _) (Nat.zero_le _) (fun v9 w9 R_66 => ?_)
            obtain ⟨vX119, x119, rfl, rfl, gA119, gB119, gF119⟩ := R_66
            show WW κ 0 0 [(a 0, mO a vX119), (a 7, aI (kG κ) 60 f7), (a 41, aI (kG κ) 64 f41)] 122 [(5, .int (nI 43)), (4, .int (nI 0)), (3, .int x80), (2, .int x65), (1, .int (nI (sg P a0))), (0, .ref (a 0))] [.int x119]
            have gG119 : FRM v vX119 := gG113.trans gF119
            have g8119 := gG119.2.1.trans h8
            have gC119 := gG119.2.2.2.trans h42
            refine w_istore (nx := 124) (lo2 := [(4, .int x119), (5, .int (nI 43)), (3, .int x80), (2, .int x65), (1, .int (nI (sg P a0))), (0, .ref (a 0))]) C dX9_readsStatement_122 rfl (by decide) rfl ?_
            refine w_aload_n (nx := 125) C 5 dX9_readsStatement_124 rfl rfl rfl ?_
            refine w_getM (nx := 128) C (.int (vX119 40)) 0 40 dX9_readsStatement_125 rfl wl_X9_239 rfl (by decide) rfl (mg_40 _ _) ?_
            refine w_top (nI 0) gA119 ?_
            refine w_if_eq (tg := 216) (nx := 131) C dX9_readsStatement_128 rfl rfl (fun _ => ?_) (fun q9 => absurd (by decide) q9)
            exact w_vret C E dX9_readsStatement_216 rfl (Nat.le_refl _) (Nat.le_refl _) (Or.inr (⟨(a0 + 1), _, rfl, rfl, (stm_2 (Or.inr (Or.inl hlt)) (nmP_none (by omega))), (gA119), (gB119), (gG119.to3)⟩))
          · exfalso; omega
    · refine w_iload_n (nx := 26) C 0 dX9_readsStatement_25 rfl rfl rfl ?_
      refine w_bipush (nx := 28) C (nI 100) dX9_readsStatement_26 rfl (by decide) ?_
      refine n_icmp_ne (tg := 35) (nx := 31) C dX9_readsStatement_28 rfl rfl (by omega) (by omega) (fun h_68 => ?_) (fun h_68 => ?_)
      · have hlt : ¬ (sg P a0 = 108 ∨ sg P a0 = 97 ∨ sg P a0 = 100) := by omega
        refine w_iconst (nx := 36) C (nI 0) dX9_readsStatement_35 rfl (by decide) ?_
        refine w_putM (nx := 39) (ws2 := [(a 0, mO a (upd v 40 (nI 0))), (a 7, aI (kG κ) 60 f7), (a 41, aI (kG κ) 64 f41)]) C 0 40 dX9_readsStatement_36 rfl wl_X9_239 rfl (by decide) rfl rfl rfl (ms_40 _ _ _) rfl ?_
        refine w_aload_n (nx := 40) C 1 dX9_readsStatement_39 rfl rfl rfl ?_
        refine w_dup (nx := 41) C dX9_readsStatement_40 rfl rfl ?_
        refine w_getM (nx := 44) C (.int (v 39)) 0 39 dX9_readsStatement_41 rfl wl_X9_236 rfl (by decide) rfl (mg_39 _ _) ?_
        refine w_top (nI a0) h39 ?_
        refine w_aload_n (nx := 45) C 1 dX9_readsStatement_44 rfl rfl rfl ?_
        refine w_getM (nx := 48) C (.int (nI 0)) 0 40 dX9_readsStatement_45 rfl wl_X9_239 rfl (by decide) rfl (mg_40 _ _) ?_
        refine w_if_eq (tg := 55) (nx := 51) C dX9_readsStatement_48 rfl rfl (fun _ => ?_) (fun q9 => absurd (by decide) q9)
        refine w_iconst (nx := 56) C (nI 0) dX9_readsStatement_55 rfl (by decide) ?_
        refine w_iadd (nx := 57) C (nI (a0 + 0)) dX9_readsStatement_56 rfl (nI_add _ _) ?_
        refine w_putM (nx := 60) (ws2 := [(a 0, mO a (upd (upd v 40 (nI 0)) 39 (nI (a0 + 0)))), (a 7, aI (kG κ) 60 f7), (a 41, aI (kG κ) 64 f41)]) C 0 39 dX9_readsStatement_57 rfl wl_X9_236 rfl (by decide) rfl rfl rfl (ms_39 _ _ _) rfl ?_
        refine w_aload_n (nx := 61) C 1 dX9_readsStatement_60 rfl rfl rfl ?_
        refine w_bipush (nx := 63) C (nI 48) dX9_readsStatement_61 rfl (by decide) ?_
        refine w_bipush (nx := 65) C (nI 51) dX9_readsStatement_63 rfl (by decide) ?_
        refine w_callV (nx := 68) (wr := [(a 41, aI (kG κ) 64 f41)]) (rest := []) C mi_X9_takes (c_X9_takes_n _ _ a (upd (upd v 40 (nI 0)) 39 (nI (a0 + 0))) f7 P a0 48 51 ((by first | assumption | exact h8 | rfl)) (by first | assumption | omega) (by first | assumption | omega) ((by first | assumption | rfl)) ((by omega)) (by first | assumption | omega) (by first | assumption | omega) ((by first | assumption | rfl))) 0 dX9_readsStatement_65 rfl wl_X9_246 rfl rfl rfl (pm_sel [0, 1, 2] 3 (by decide +kernel) rfl rfl) rfl rfl (Nat.le_of_ble_eq_true rfl) (Nat.le_of_ble_eq_true rfl) (Nat.le_of_ble_eq_true rfl) (Nat.zero_le _) (Nat.zero_le _) (fun v9 w9 R_70 => ?_)
        obtain ⟨vX65, x65, rfl, rfl, gA65, gB65, gF65⟩ := R_70
        show WW κ 0 0 [(a 0, mO a vX65), (a 7, aI (kG κ) 60 f7), (a 41, aI (kG κ) 64 f41)] 68 [(1, .int (nI (sg P a0))), (0, .ref (a 0))] [.int x65]
        have gG65 : FRM v vX65 := FRM.trans (w := _) ⟨rfl, rfl, rfl, rfl⟩ gF65
        have g865 := gG65.2.1.trans h8
        have gC65 := gG65.2.2.2.trans h42
        refine w_istore_n (nx := 69) (lo2 := [(2, .int x65), (1, .int (nI (sg P a0))), (0, .ref (a 0))]) C dX9_readsStatement_68 rfl rfl (by decide) rfl ?_
        refine w_aload_n (nx := 70) C 2 dX9_readsStatement_69 rfl rfl rfl ?_
        refine w_bipush (nx := 72) C (nI 46) dX9_readsStatement_70 rfl (by decide) ?_
        refine w_bipush (nx := 74) C (nI 46) dX9_readsStatement_72 rfl (by decide) ?_
        refine w_callV (nx := 77) (wr := [(a 41, aI (kG κ) 64 f41)]) (rest := []) C mi_X9_takes (c_X9_takes_n _ _ a vX65 f7 P a0 46 46 ((by first | assumption | exact h8 | rfl)) (by first | assumption | omega) (by first | assumption | omega) ((by first | assumption | rfl)) ((by omega)) (by first | assumption | omega) (by first | assumption | omega) ((by first | assumption | rfl))) 0 dX9_readsStatement_74 rfl wl_X9_246 rfl rfl rfl (pm_sel [0, 1, 2] 3 (by decide +kernel) rfl rfl) rfl rfl (Nat.le_of_ble_eq_true rfl) (Nat.le_of_ble_eq_true rfl) (Nat.le_of_ble_eq_true rfl) (Nat.zero_le _) (Nat.zero_le _) (fun v9 w9 R_71 => ?_)
        obtain ⟨vX74, x74, rfl, rfl, gA74, gB74, gF74⟩ := R_71
        show WW κ 0 0 [(a 0, mO a vX74), (a 7, aI (kG κ) 60 f7), (a 41, aI (kG κ) 64 f41)] 77 [(2, .int x65), (1, .int (nI (sg P a0))), (0, .ref (a 0))] [.int x74]
        have gG74 : FRM v vX74 := gG65.trans gF74
        have g874 := gG74.2.1.trans h8
        have gC74 := gG74.2.2.2.trans h42
        refine w_pop (nx := 78) C dX9_readsStatement_77 rfl rfl ?_
        refine w_aload_n (nx := 79) C 2 dX9_readsStatement_78 rfl rfl rfl ?_
        refine w_iconst (nx := 80) C (nI 2) dX9_readsStatement_79 rfl (by decide) ?_
        refine w_callV (nx := 83) (wr := [(a 41, aI (kG κ) 64 f41)]) (rest := []) C mi_X9_number (c_X9_number_n _ _ a vX74 f7 P a0 2 ((by first | assumption | exact h8 | rfl)) (by first | assumption | omega) (by first | assumption | omega) ((by first | assumption | rfl)) ((by omega)) ((by first | assumption | rfl)) (by first | assumption | omega) (by first | assumption | omega)) 0 dX9_readsStatement_80 rfl wl_X9_249 rfl rfl rfl (pm_sel [0, 1, 2] 3 (by decide +kernel) rfl rfl) rfl rfl (Nat.le_of_ble_eq_true rfl) (Nat.le_of_ble_eq_true rfl) (Nat.le_of_ble_eq_true rfl) (Nat.zero_le _) (Nat.zero_le _) (fun v9 w9 R_72 => ?_)
        obtain ⟨vX80, x80, rfl, rfl, gA80, gB80, gF80⟩ := R_72
        show WW κ 0 0 [(a 0, mO a vX80), (a 7, aI (kG κ) 60 f7), (a 41, aI (kG κ) 64 f41)] 83 [(2, .int x65), (1, .int (nI (sg P a0))), (0, .ref (a 0))] [.int x80]
        have gG80 : FRM v vX80 := gG74.trans gF80
        have g880 := gG80.2.1.trans h8
        have gC80 := gG80.2.2.2.trans h42
        refine w_istore_n (nx := 84) (lo2 := [(3, .int x80), (2, .int x65), (1, .int (nI (sg P a0))), (0, .ref (a 0))]) C dX9_readsStatement_83 rfl rfl (by decide) rfl ?_
        refine w_iconst (nx := 85) C (nI 0) dX9_readsStatement_84 rfl (by decide) ?_
        refine w_istore (nx := 87) (lo2 := [(4, .int (nI 0)), (3, .int x80), (2, .int x65), (1, .int (nI (sg P a0))), (0, .ref (a 0))]) C dX9_readsStatement_85 rfl (by decide) rfl ?_
        refine w_iload_n (nx := 88) C 3 dX9_readsStatement_87 rfl rfl rfl ?_
        refine w_bipush (nx := 90) C (nI 100) dX9_readsStatement_88 rfl (by decide) ?_
        refine n_icmp_eq (tg := 124) (nx := 93) C dX9_readsStatement_90 rfl rfl (by omega) (by omega) (fun h_73 => ?_) (fun h_73 => ?_)
        · exfalso; omega
        · refine w_iload_n (nx := 94) C 3 dX9_readsStatement_93 rfl rfl rfl ?_
          refine w_bipush (nx := 96) C (nI 108) dX9_readsStatement_94 rfl (by decide) ?_
          refine n_icmp_ne (tg := 104) (nx := 99) C dX9_readsStatement_96 rfl rfl (by omega) (by omega) (fun h_74 => ?_) (fun h_74 => ?_)
          · refine w_bipush (nx := 106) C (nI 43) dX9_readsStatement_104 rfl (by decide) ?_
            refine w_istore (nx := 108) (lo2 := [(5, .int (nI 43)), (4, .int (nI 0)), (3, .int x80), (2, .int x65), (1, .int (nI (sg P a0))), (0, .ref (a 0))]) C dX9_readsStatement_106 rfl (by decide) rfl ?_
            refine w_aload_n (nx := 109) C 5 dX9_readsStatement_108 rfl rfl rfl ?_
            refine w_iload (nx := 111) C 0 dX9_readsStatement_109 rfl rfl ?_
            refine w_iload (nx := 113) C 0 dX9_readsStatement_111 rfl rfl ?_
            refine w_callV (nx := 116) (wr := [(a 41, aI (kG κ) 64 f41)]) (rest := []) C mi_X9_takes (c_X9_takes_n _ _ a vX80 f7 P a0 43 43 ((by first | assumption | exact h8 | rfl)) (by first | assumption | omega) (by first | assumption | omega) ((by first | assumption | rfl)) ((by omega)) (by first | assumption | omega) (by first | assumption | omega) ((by first | assumption | rfl))) 0 dX9_readsStatement_113 rfl wl_X9_246 rfl rfl rfl (pm_sel [0, 1, 2] 3 (by decide +kernel) rfl rfl) rfl rfl (Nat.le_of_ble_eq_true rfl) (Nat.le_of_ble_eq_true rfl) (Nat.le_of_ble_eq_true rfl) (Nat.zero_le _) (Nat.zero_le _) (fun v9 w9 R_75 => ?_)
            obtain ⟨vX113, x113, rfl, rfl, gA113, gB113, gF113⟩ := R_75
            show WW κ 0 0 [(a 0, mO a vX113), (a 7, aI (kG κ) 60 f7), (a 41, aI (kG κ) 64 f41)] 116 [(5, .int (nI 43)), (4, .int (nI 0)), (3, .int x80), (2, .int x65), (1, .int (nI (sg P a0))), (0, .ref (a 0))] [.int x113]
            have gG113 : FRM v vX113 := gG80.trans gF113
            have g8113 := gG113.2.1.trans h8
            have gC113 := gG113.2.2.2.trans h42
            refine w_pop (nx := 117) C dX9_readsStatement_116 rfl rfl ?_
            refine w_aload_n (nx := 118) C 5 dX9_readsStatement_117 rfl rfl rfl ?_
            refine w_iconst (nx := 119) C (nI 3) dX9_readsStatement_118 rfl (by decide) ?_
            refine w_callV (nx := 122) (wr := [(a 41, aI (kG κ) 64 f41)]) (rest := []) C mi_X9_number (c_X9_number_n _ _ a vX113 f7 P a0 3 ((by first | assumption | exact h8 | rfl)) (by first | assumption | omega) (by first | assumption | omega) ((by first | assumption | rfl)) ((by omega)) ((by first | assumption | rfl)) (by first | assumption | omega) (by first | assumption | omega)) 0 dX9_readsStatement_119 rfl wl_X9_249 rfl rfl rfl (pm_sel [0, 1, 2] 3 (by decide +kernel) rfl rfl) rfl rfl (Nat.le_of_ble_eq_true rfl) (Nat.le_of_ble_eq_true rfl) (Nat.le_of_ble_eq_true rfl) (Nat.zero_le _) (Nat.zero_le _) (fun v9 w9 R_76 => ?_)
            obtain ⟨vX119, x119, rfl, rfl, gA119, gB119, gF119⟩ := R_76
            show WW κ 0 0 [(a 0, mO a vX119), (a 7, aI (kG κ) 60 f7), (a 41, aI (kG κ) 64 f41)] 122 [(5, .int (nI 43)), (4, .int (nI 0)), (3, .int x80), (2, .int x65), (1, .int (nI (sg P a0))), (0, .ref (a 0))] [.int x119]
            have gG119 : FRM v vX119 := gG113.trans gF119
            have g8119 := gG119.2.1.trans h8
            have gC119 := gG119.2.2.2.trans h42
            refine w_istore (nx := 124) (lo2 := [(4, .int x119), (5, .int (nI 43)), (3, .int x80), (2, .int x65), (1, .int (nI (sg P a0))), (0, .ref (a 0))]) C dX9_readsStatement_122 rfl (by decide) rfl ?_
            refine w_aload_n (nx := 125) C 5 dX9_readsStatement_124 rfl rfl rfl ?_
            refine w_getM (nx := 128) C (.int (vX119 40)) 0 40 dX9_readsStatement_125 rfl wl_X9_239 rfl (by decide) rfl (mg_40 _ _) ?_
            refine w_top (nI 0) gA119 ?_
            refine w_if_eq (tg := 216) (nx := 131) C dX9_readsStatement_128 rfl rfl (fun _ => ?_) (fun q9 => absurd (by decide) q9)
            exact w_vret C E dX9_readsStatement_216 rfl (Nat.le_refl _) (Nat.le_refl _) (Or.inr (⟨a0, _, rfl, rfl, (stm_1 hlt), (gA119), (gB119), (gG119.to3)⟩))
          · exfalso; omega
      · have hlt : sg P a0 = 100 := by omega
        have gL0 : a0 + 1 ≤ P.1 := sg_lt (P := P) (a := a0) (by omega)
        refine w_iconst (nx := 32) C (nI 1) dX9_readsStatement_31 rfl (by decide) ?_
        refine w_goto (nx := 36) C dX9_readsStatement_32 rfl ?_
        refine w_putM (nx := 39) (ws2 := [(a 0, mO a (upd v 40 (nI 1))), (a 7, aI (kG κ) 60 f7), (a 41, aI (kG κ) 64 f41)]) C 0 40 dX9_readsStatement_36 rfl wl_X9_239 rfl (by decide) rfl rfl rfl (ms_40 _ _ _) rfl ?_
        refine w_aload_n (nx := 40) C 1 dX9_readsStatement_39 rfl rfl rfl ?_
        refine w_dup (nx := 41) C dX9_readsStatement_40 rfl rfl ?_
        refine w_getM (nx := 44) C (.int (v 39)) 0 39 dX9_readsStatement_41 rfl wl_X9_236 rfl (by decide) rfl (mg_39 _ _) ?_
        refine w_top (nI a0) h39 ?_
        refine w_aload_n (nx := 45) C 1 dX9_readsStatement_44 rfl rfl rfl ?_
        refine w_getM (nx := 48) C (.int (nI 1)) 0 40 dX9_readsStatement_45 rfl wl_X9_239 rfl (by decide) rfl (mg_40 _ _) ?_
        refine w_if_eq (tg := 55) (nx := 51) C dX9_readsStatement_48 rfl rfl (fun q9 => absurd q9 (by decide)) (fun _ => ?_)
        refine w_iconst (nx := 52) C (nI 1) dX9_readsStatement_51 rfl (by decide) ?_
        refine w_goto (nx := 56) C dX9_readsStatement_52 rfl ?_
        refine w_iadd (nx := 57) C (nI (a0 + 1)) dX9_readsStatement_56 rfl (nI_add _ _) ?_
        refine w_putM (nx := 60) (ws2 := [(a 0, mO a (upd (upd v 40 (nI 1)) 39 (nI (a0 + 1)))), (a 7, aI (kG κ) 60 f7), (a 41, aI (kG κ) 64 f41)]) C 0 39 dX9_readsStatement_57 rfl wl_X9_236 rfl (by decide) rfl rfl rfl (ms_39 _ _ _) rfl ?_
        refine w_aload_n (nx := 61) C 1 dX9_readsStatement_60 rfl rfl rfl ?_
        refine w_bipush (nx := 63) C (nI 48) dX9_readsStatement_61 rfl (by decide) ?_
        refine w_bipush (nx := 65) C (nI 51) dX9_readsStatement_63 rfl (by decide) ?_
        refine w_callV (nx := 68) (wr := [(a 41, aI (kG κ) 64 f41)]) (rest := []) C mi_X9_takes (c_X9_takes_w _ _ a (upd (upd v 40 (nI 1)) 39 (nI (a0 + 1))) f7 P (a0 + 1) 48 51 ((by first | assumption | exact h8 | rfl)) (by first | assumption | omega) (by first | assumption | omega) ((by first | assumption | rfl)) ((by omega)) (by first | assumption | omega) (by first | assumption | omega) ((by first | assumption | rfl))) 0 dX9_readsStatement_65 rfl wl_X9_246 rfl rfl rfl (pm_sel [0, 1, 2] 3 (by decide +kernel) rfl rfl) rfl rfl (Nat.le_of_ble_eq_true rfl) (Nat.le_of_ble_eq_true rfl) (Nat.le_of_ble_eq_true rfl) (Nat.zero_le _) (Nat.zero_le _) (fun v9 w9 R_79 => ?_)
        rcases R_79 with ⟨vW65, rfl, rfl, gW65, gV65, gA65, gB65, gF65⟩ | ⟨vX65, x65, rfl, rfl, gX65, gA65, gB65, gF65⟩
        · show WW κ 0 0 [(a 0, mO a vW65), (a 7, aI (kG κ) 60 f7), (a 41, aI (kG κ) 64 f41)] 68 [(1, .int (nI (sg P a0))), (0, .ref (a 0))] [.int (nI (sg P (a0 + 1) - 48))]
          have gG65 : FRM v vW65 := FRM.trans (w := _) ⟨rfl, rfl, rfl, rfl⟩ gF65
          have g865 := gG65.2.1.trans h8
          have gC65 := gG65.2.2.2.trans h42
          have gL65 : (a0 + 1 + 1) ≤ P.1 := sg_lt (P := P) (a := a0 + 1) (by omega)
          have nmt : nmP P 4 0 (a0 + 1) = some (sg P (a0 + 1) - 48, a0 + 1 + 1) := nmP_some ⟨by omega, by omega⟩
          refine w_istore_n (nx := 69) (lo2 := [(2, .int (nI (sg P (a0 + 1) - 48))), (1, .int (nI (sg P a0))), (0, .ref (a 0))]) C dX9_readsStatement_68 rfl rfl (by decide) rfl ?_
          refine w_aload_n (nx := 70) C 2 dX9_readsStatement_69 rfl rfl rfl ?_
          refine w_bipush (nx := 72) C (nI 46) dX9_readsStatement_70 rfl (by decide) ?_
          refine w_bipush (nx := 74) C (nI 46) dX9_readsStatement_72 rfl (by decide) ?_
          refine w_callV (nx := 77) (wr := [(a 41, aI (kG κ) 64 f41)]) (rest := []) C mi_X9_takes (c_X9_takes_w _ _ a vW65 f7 P (a0 + 1 + 1) 46 46 ((by first | assumption | exact h8 | rfl)) (by first | assumption | omega) (by first | assumption | omega) ((by first | assumption | rfl)) ((by omega)) (by first | assumption | omega) (by first | assumption | omega) ((by first | assumption | rfl))) 0 dX9_readsStatement_74 rfl wl_X9_246 rfl rfl rfl (pm_sel [0, 1, 2] 3 (by decide +kernel) rfl rfl) rfl rfl (Nat.le_of_ble_eq_true rfl) (Nat.le_of_ble_eq_true rfl) (Nat.le_of_ble_eq_true rfl) (Nat.zero_le _) (Nat.zero_le _) (fun v9 w9 R_80 => ?_)
          rcases R_80 with ⟨vW74, rfl, rfl, gW74, gV74, gA74, gB74, gF74⟩ | ⟨vX74, x74, rfl, rfl, gX74, gA74, gB74, gF74⟩
          · show WW κ 0 0 [(a 0, mO a vW74), (a 7, aI (kG κ) 60 f7), (a 41, aI (kG κ) 64 f41)] 77 [(2, .int (nI (sg P (a0 + 1) - 48))), (1, .int (nI (sg P a0))), (0, .ref (a 0))] [.int (nI (sg P (a0 + 1 + 1) - 46))]
            have gG74 : FRM v vW74 := gG65.trans gF74
            have g874 := gG74.2.1.trans h8
            have gC74 := gG74.2.2.2.trans h42
            have gL74 : (a0 + 1 + 1 + 1) ≤ P.1 := sg_lt (P := P) (a := a0 + 1 + 1) (by omega)
            refine w_pop (nx := 78) C dX9_readsStatement_77 rfl rfl ?_
            refine w_aload_n (nx := 79) C 2 dX9_readsStatement_78 rfl rfl rfl ?_
            refine w_iconst (nx := 80) C (nI 2) dX9_readsStatement_79 rfl (by decide) ?_
            refine w_callV (nx := 83) (wr := [(a 41, aI (kG κ) 64 f41)]) (rest := []) C mi_X9_number (c_X9_number_w2 _ _ a vW74 f7 P (a0 + 1 + 1 + 1) ((by first | assumption | exact h8 | rfl)) (by first | assumption | omega) (by first | assumption | omega) ((by first | assumption | rfl)) ((by omega)) ((by first | assumption | rfl))) 0 dX9_readsStatement_80 rfl wl_X9_249 rfl rfl rfl (pm_sel [0, 1, 2] 3 (by decide +kernel) rfl rfl) rfl rfl (Nat.le_of_ble_eq_true rfl) (Nat.le_of_ble_eq_true rfl) (Nat.le_of_ble_eq_true rfl) (Nat.zero_le _) (Nat.zero_le _) (fun v9 w9 R_81 => ?_)
            rcases R_81 with ⟨u80, p80, vW80, rfl, rfl, gW80, gV80, gA80, gB80, gF80⟩ | ⟨vX80, x80, rfl, rfl, gX80, gA80, gB80, gF80⟩
            · show WW κ 0 0 [(a 0, mO a vW80), (a 7, aI (kG κ) 60 f7), (a 41, aI (kG κ) 64 f41)] 83 [(2, .int (nI (sg P (a0 + 1) - 48))), (1, .int (nI (sg P a0))), (0, .ref (a 0))] [.int (nI u80)]
              have gG80 : FRM v vW80 := gG74.trans gF80
              have g880 := gG80.2.1.trans h8
              have gC80 := gG80.2.2.2.trans h42
              have gL80 := nmP_le gW80
              refine w_istore_n (nx := 84) (lo2 := [(3, .int (nI u80)), (2, .int (nI (sg P (a0 + 1) - 48))), (1, .int (nI (sg P a0))), (0, .ref (a 0))]) C dX9_readsStatement_83 rfl rfl (by decide) rfl ?_
              refine w_iconst (nx := 85) C (nI 0) dX9_readsStatement_84 rfl (by decide) ?_
              refine w_istore (nx := 87) (lo2 := [(4, .int (nI 0)), (3, .int (nI u80)), (2, .int (nI (sg P (a0 + 1) - 48))), (1, .int (nI (sg P a0))), (0, .ref (a 0))]) C dX9_readsStatement_85 rfl (by decide) rfl ?_
              refine w_iload_n (nx := 88) C 3 dX9_readsStatement_87 rfl rfl rfl ?_
              refine w_bipush (nx := 90) C (nI 100) dX9_readsStatement_88 rfl (by decide) ?_
              refine n_icmp_eq (tg := 124) (nx := 93) C dX9_readsStatement_90 rfl rfl (by omega) (by omega) (fun h_82 => ?_) (fun h_82 => ?_)
              · refine w_aload_n (nx := 125) C 4 dX9_readsStatement_124 rfl rfl rfl ?_
                refine w_getM (nx := 128) C (.int (vW80 40)) 0 40 dX9_readsStatement_125 rfl wl_X9_239 rfl (by decide) rfl (mg_40 _ _) ?_
                refine w_top (nI 1) gA80 ?_
                refine w_if_eq (tg := 216) (nx := 131) C dX9_readsStatement_128 rfl rfl (fun q9 => absurd q9 (by decide)) (fun _ => ?_)
                refine w_aload_n (nx := 132) C 4 dX9_readsStatement_131 rfl rfl rfl ?_
                refine w_getM (nx := 135) C (.ref (a 41)) 0 41 dX9_readsStatement_132 rfl wl_X9_87 rfl (by decide) rfl (mg_41 _ _) ?_
                refine w_iconst (nx := 136) C (nI 4) dX9_readsStatement_135 rfl (by decide) ?_
                refine w_aload_n (nx := 137) C 4 dX9_readsStatement_136 rfl rfl rfl ?_
                refine w_getM (nx := 140) C (.int (vW80 42)) 0 42 dX9_readsStatement_137 rfl wl_X9_252 rfl (by decide) rfl (mg_42 _ _) ?_
                refine w_top (nI lq.1) gC80 ?_
                refine w_imul (nx := 141) C (nI (4 * lq.1)) dX9_readsStatement_140 rfl (pk_mul _ _) ?_
                refine w_iload_n (nx := 142) C 3 dX9_readsStatement_141 rfl rfl rfl ?_
                refine w_bipush (nx := 144) C (nI 108) dX9_readsStatement_142 rfl (by decide) ?_
                refine n_icmp_ne (tg := 151) (nx := 147) C dX9_readsStatement_144 rfl rfl (by omega) (by omega) (fun h_84 => ?_) (fun h_84 => ?_)
                · refine w_iload_n (nx := 152) C 3 dX9_readsStatement_151 rfl rfl rfl ?_
                  refine w_bipush (nx := 154) C (nI 97) dX9_readsStatement_152 rfl (by decide) ?_
                  refine n_icmp_ne (tg := 161) (nx := 157) C dX9_readsStatement_154 rfl rfl (by omega) (by omega) (fun h_85 => ?_) (fun h_85 => ?_)
                  · refine w_iconst (nx := 162) C (nI 2) dX9_readsStatement_161 rfl (by decide) ?_
                    refine w_iast (nx := 163) (ws2 := [(a 0, mO a vW80), (a 7, aI (kG κ) 60 f7), (a 41, aI (kG κ) 64 (upd f41 (4 * lq.1) (nI 2)))]) C 2 (4 * lq.1) dX9_readsStatement_162 rfl rfl (by decide) rfl (by omega) rfl ?_
                    refine w_aload_n (nx := 164) C 4 dX9_readsStatement_163 rfl rfl rfl ?_
                    refine w_getM (nx := 167) C (.ref (a 41)) 0 41 dX9_readsStatement_164 rfl wl_X9_87 rfl (by decide) rfl (mg_41 _ _) ?_
                    refine w_iconst (nx := 168) C (nI 4) dX9_readsStatement_167 rfl (by decide) ?_
                    refine w_aload_n (nx := 169) C 4 dX9_readsStatement_168 rfl rfl rfl ?_
                    refine w_getM (nx := 172) C (.int (vW80 42)) 0 42 dX9_readsStatement_169 rfl wl_X9_252 rfl (by decide) rfl (mg_42 _ _) ?_
                    refine w_top (nI lq.1) gC80 ?_
                    refine w_imul (nx := 173) C (nI (4 * lq.1)) dX9_readsStatement_172 rfl (pk_mul _ _) ?_
                    refine w_iconst (nx := 174) C (nI 1) dX9_readsStatement_173 rfl (by decide) ?_
                    refine w_iadd (nx := 175) C (nI (4 * lq.1 + 1)) dX9_readsStatement_174 rfl (nI_add _ _) ?_
                    refine w_iload_n (nx := 176) C 2 dX9_readsStatement_175 rfl rfl rfl ?_
                    refine w_iast (nx := 177) (ws2 := [(a 0, mO a vW80), (a 7, aI (kG κ) 60 f7), (a 41, aI (kG κ) 64 (upd (upd f41 (4 * lq.1) (nI 2)) (4 * lq.1 + 1) (nI (sg P (a0 + 1) - 48))))]) C 2 (4 * lq.1 + 1) dX9_readsStatement_176 rfl rfl (by decide) rfl (by omega) rfl ?_
                    refine w_aload_n (nx := 178) C 4 dX9_readsStatement_177 rfl rfl rfl ?_
                    refine w_getM (nx := 181) C (.ref (a 41)) 0 41 dX9_readsStatement_178 rfl wl_X9_87 rfl (by decide) rfl (mg_41 _ _) ?_
                    refine w_iconst (nx := 182) C (nI 4) dX9_readsStatement_181 rfl (by decide) ?_
                    refine w_aload_n (nx := 183) C 4 dX9_readsStatement_182 rfl rfl rfl ?_
                    refine w_getM (nx := 186) C (.int (vW80 42)) 0 42 dX9_readsStatement_183 rfl wl_X9_252 rfl (by decide) rfl (mg_42 _ _) ?_
                    refine w_top (nI lq.1) gC80 ?_
                    refine w_imul (nx := 187) C (nI (4 * lq.1)) dX9_readsStatement_186 rfl (pk_mul _ _) ?_
                    refine w_iconst (nx := 188) C (nI 2) dX9_readsStatement_187 rfl (by decide) ?_
                    refine w_iadd (nx := 189) C (nI (4 * lq.1 + 2)) dX9_readsStatement_188 rfl (nI_add _ _) ?_
                    refine w_iload_n (nx := 190) C 1 dX9_readsStatement_189 rfl rfl rfl ?_
                    refine w_iast (nx := 191) (ws2 := [(a 0, mO a vW80), (a 7, aI (kG κ) 60 f7), (a 41, aI (kG κ) 64 (upd (upd (upd f41 (4 * lq.1) (nI 2)) (4 * lq.1 + 1) (nI (sg P (a0 + 1) - 48))) (4 * lq.1 + 2) (nI u80)))]) C 2 (4 * lq.1 + 2) dX9_readsStatement_190 rfl rfl (by decide) rfl (by omega) rfl ?_
                    refine w_aload_n (nx := 192) C 4 dX9_readsStatement_191 rfl rfl rfl ?_
                    refine w_getM (nx := 195) C (.ref (a 41)) 0 41 dX9_readsStatement_192 rfl wl_X9_87 rfl (by decide) rfl (mg_41 _ _) ?_
                    refine w_iconst (nx := 196) C (nI 4) dX9_readsStatement_195 rfl (by decide) ?_
                    refine w_aload_n (nx := 197) C 4 dX9_readsStatement_196 rfl rfl rfl ?_
                    refine w_getM (nx := 200) C (.int (vW80 42)) 0 42 dX9_readsStatement_197 rfl wl_X9_252 rfl (by decide) rfl (mg_42 _ _) ?_
                    refine w_top (nI lq.1) gC80 ?_
                    refine w_imul (nx := 201) C (nI (4 * lq.1)) dX9_readsStatement_200 rfl (pk_mul _ _) ?_
                    refine w_iconst (nx := 202) C (nI 3) dX9_readsStatement_201 rfl (by decide) ?_
                    refine w_iadd (nx := 203) C (nI (4 * lq.1 + 3)) dX9_readsStatement_202 rfl (nI_add _ _) ?_
                    refine w_iload (nx := 205) C 0 dX9_readsStatement_203 rfl rfl ?_
                    refine w_iast (nx := 206) (ws2 := [(a 0, mO a vW80), (a 7, aI (kG κ) 60 f7), (a 41, aI (kG κ) 64 (upd (upd (upd (upd f41 (4 * lq.1) (nI 2)) (4 * lq.1 + 1) (nI (sg P (a0 + 1) - 48))) (4 * lq.1 + 2) (nI u80)) (4 * lq.1 + 3) (nI 0)))]) C 2 (4 * lq.1 + 3) dX9_readsStatement_205 rfl rfl (by decide) rfl (by omega) rfl ?_
                    refine w_aload_n (nx := 207) C 4 dX9_readsStatement_206 rfl rfl rfl ?_
                    refine w_dup (nx := 208) C dX9_readsStatement_207 rfl rfl ?_
                    refine w_getM (nx := 211) C (.int (vW80 42)) 0 42 dX9_readsStatement_208 rfl wl_X9_252 rfl (by decide) rfl (mg_42 _ _) ?_
                    refine w_top (nI lq.1) gC80 ?_
                    refine w_iconst (nx := 212) C (nI 1) dX9_readsStatement_211 rfl (by decide) ?_
                    refine w_iadd (nx := 213) C (nI (lq.1 + 1)) dX9_readsStatement_212 rfl (nI_add _ _) ?_
                    refine w_putM (nx := 216) (ws2 := [(a 0, mO a (upd vW80 42 (nI (lq.1 + 1)))), (a 7, aI (kG κ) 60 f7), (a 41, aI (kG κ) 64 (upd (upd (upd (upd f41 (4 * lq.1) (nI 2)) (4 * lq.1 + 1) (nI (sg P (a0 + 1) - 48))) (4 * lq.1 + 2) (nI u80)) (4 * lq.1 + 3) (nI 0)))]) C 0 42 dX9_readsStatement_213 rfl wl_X9_252 rfl (by decide) rfl rfl rfl (ms_42 _ _ _) rfl ?_
                    exact w_vret C E dX9_readsStatement_216 rfl (Nat.le_refl _) (Nat.le_refl _) (Or.inl ⟨(2, sg P (a0 + 1) - 48, u80, 0), p80, _, _, rfl, rfl, (stm_5 hlt nmt (by omega) gW80), (gA80), (gB80), (rfl), (gG80.to3), (rQ_psh2 hQ (by decide) (by omega) (by omega) (by omega))⟩)
                  · exfalso; omega
                · exfalso; omega
              · exfalso; omega
            · show WW κ 0 0 [(a 0, mO a vX80), (a 7, aI (kG κ) 60 f7), (a 41, aI (kG κ) 64 f41)] 83 [(2, .int (nI (sg P (a0 + 1) - 48))), (1, .int (nI (sg P a0))), (0, .ref (a 0))] [.int x80]
              have gG80 : FRM v vX80 := gG74.trans gF80
              have g880 := gG80.2.1.trans h8
              have gC80 := gG80.2.2.2.trans h42
              refine w_istore_n (nx := 84) (lo2 := [(3, .int x80), (2, .int (nI (sg P (a0 + 1) - 48))), (1, .int (nI (sg P a0))), (0, .ref (a 0))]) C dX9_readsStatement_83 rfl rfl (by decide) rfl ?_
              refine w_iconst (nx := 85) C (nI 0) dX9_readsStatement_84 rfl (by decide) ?_
              refine w_istore (nx := 87) (lo2 := [(4, .int (nI 0)), (3, .int x80), (2, .int (nI (sg P (a0 + 1) - 48))), (1, .int (nI (sg P a0))), (0, .ref (a 0))]) C dX9_readsStatement_85 rfl (by decide) rfl ?_
              refine w_iload_n (nx := 88) C 3 dX9_readsStatement_87 rfl rfl rfl ?_
              refine w_bipush (nx := 90) C (nI 100) dX9_readsStatement_88 rfl (by decide) ?_
              refine n_icmp_eq (tg := 124) (nx := 93) C dX9_readsStatement_90 rfl rfl (by omega) (by omega) (fun h_86 => ?_) (fun h_86 => ?_)
              · refine w_aload_n (nx := 125) C 4 dX9_readsStatement_124 rfl rfl rfl ?_
                refine w_getM (nx := 128) C (.int (vX80 40)) 0 40 dX9_readsStatement_125 rfl wl_X9_239 rfl (by decide) rfl (mg_40 _ _) ?_
                refine w_top (nI 0) gA80 ?_
                refine w_if_eq (tg := 216) (nx := 131) C dX9_readsStatement_128 rfl rfl (fun _ => ?_) (fun q9 => absurd (by decide) q9)
                exact w_vret C E dX9_readsStatement_216 rfl (Nat.le_refl _) (Nat.le_refl _) (Or.inr (⟨(a0 + 1 + 1 + 1), _, rfl, rfl, (stm_4 (Or.inr (Or.inr hlt)) nmt (by omega) gX80), (gA80), (gB80), (gG80.to3)⟩))
              · exfalso; omega
          · show WW κ 0 0 [(a 0, mO a vX74), (a 7, aI (kG κ) 60 f7), (a 41, aI (kG κ) 64 f41)] 77 [(2, .int (nI (sg P (a0 + 1) - 48))), (1, .int (nI (sg P a0))), (0, .ref (a 0))] [.int x74]
            have gG74 : FRM v vX74 := gG65.trans gF74
            have g874 := gG74.2.1.trans h8
            have gC74 := gG74.2.2.2.trans h42
            refine w_pop (nx := 78) C dX9_readsStatement_77 rfl rfl ?_
            refine w_aload_n (nx := 79) C 2 dX9_readsStatement_78 rfl rfl rfl ?_
            refine w_iconst (nx := 80) C (nI 2) dX9_readsStatement_79 rfl (by decide) ?_
            refine w_callV (nx := 83) (wr := [(a 41, aI (kG κ) 64 f41)]) (rest := []) C mi_X9_number (c_X9_number_n _ _ a vX74 f7 P (a0 + 1 + 1) 2 ((by first | assumption | exact h8 | rfl)) (by first | assumption | omega) (by first | assumption | omega) ((by first | assumption | rfl)) ((by omega)) ((by first | assumption | rfl)) (by first | assumption | omega) (by first | assumption | omega)) 0 dX9_readsStatement_80 rfl wl_X9_249 rfl rfl rfl (pm_sel [0, 1, 2] 3 (by decide +kernel) rfl rfl) rfl rfl (Nat.le_of_ble_eq_true rfl) (Nat.le_of_ble_eq_true rfl) (Nat.le_of_ble_eq_true rfl) (Nat.zero_le _) (Nat.zero_le _) (fun v9 w9 R_88 => ?_)
            obtain ⟨vX80, x80, rfl, rfl, gA80, gB80, gF80⟩ := R_88
            show WW κ 0 0 [(a 0, mO a vX80), (a 7, aI (kG κ) 60 f7), (a 41, aI (kG κ) 64 f41)] 83 [(2, .int (nI (sg P (a0 + 1) - 48))), (1, .int (nI (sg P a0))), (0, .ref (a 0))] [.int x80]
            have gG80 : FRM v vX80 := gG74.trans gF80
            have g880 := gG80.2.1.trans h8
            have gC80 := gG80.2.2.2.trans h42
            refine w_istore_n (nx := 84) (lo2 := [(3, .int x80), (2, .int (nI (sg P (a0 + 1) - 48))), (1, .int (nI (sg P a0))), (0, .ref (a 0))]) C dX9_readsStatement_83 rfl rfl (by decide) rfl ?_
            refine w_iconst (nx := 85) C (nI 0) dX9_readsStatement_84 rfl (by decide) ?_
            refine w_istore (nx := 87) (lo2 := [(4, .int (nI 0)), (3, .int x80), (2, .int (nI (sg P (a0 + 1) - 48))), (1, .int (nI (sg P a0))), (0, .ref (a 0))]) C dX9_readsStatement_85 rfl (by decide) rfl ?_
            refine w_iload_n (nx := 88) C 3 dX9_readsStatement_87 rfl rfl rfl ?_
            refine w_bipush (nx := 90) C (nI 100) dX9_readsStatement_88 rfl (by decide) ?_
            refine n_icmp_eq (tg := 124) (nx := 93) C dX9_readsStatement_90 rfl rfl (by omega) (by omega) (fun h_89 => ?_) (fun h_89 => ?_)
            · refine w_aload_n (nx := 125) C 4 dX9_readsStatement_124 rfl rfl rfl ?_
              refine w_getM (nx := 128) C (.int (vX80 40)) 0 40 dX9_readsStatement_125 rfl wl_X9_239 rfl (by decide) rfl (mg_40 _ _) ?_
              refine w_top (nI 0) gA80 ?_
              refine w_if_eq (tg := 216) (nx := 131) C dX9_readsStatement_128 rfl rfl (fun _ => ?_) (fun q9 => absurd (by decide) q9)
              exact w_vret C E dX9_readsStatement_216 rfl (Nat.le_refl _) (Nat.le_refl _) (Or.inr (⟨(a0 + 1 + 1), _, rfl, rfl, (stm_3 (Or.inr (Or.inr hlt)) nmt (by omega)), (gA80), (gB80), (gG80.to3)⟩))
            · exfalso; omega
        · show WW κ 0 0 [(a 0, mO a vX65), (a 7, aI (kG κ) 60 f7), (a 41, aI (kG κ) 64 f41)] 68 [(1, .int (nI (sg P a0))), (0, .ref (a 0))] [.int x65]
          have gG65 : FRM v vX65 := FRM.trans (w := _) ⟨rfl, rfl, rfl, rfl⟩ gF65
          have g865 := gG65.2.1.trans h8
          have gC65 := gG65.2.2.2.trans h42
          refine w_istore_n (nx := 69) (lo2 := [(2, .int x65), (1, .int (nI (sg P a0))), (0, .ref (a 0))]) C dX9_readsStatement_68 rfl rfl (by decide) rfl ?_
          refine w_aload_n (nx := 70) C 2 dX9_readsStatement_69 rfl rfl rfl ?_
          refine w_bipush (nx := 72) C (nI 46) dX9_readsStatement_70 rfl (by decide) ?_
          refine w_bipush (nx := 74) C (nI 46) dX9_readsStatement_72 rfl (by decide) ?_
          refine w_callV (nx := 77) (wr := [(a 41, aI (kG κ) 64 f41)]) (rest := []) C mi_X9_takes (c_X9_takes_n _ _ a vX65 f7 P (a0 + 1) 46 46 ((by first | assumption | exact h8 | rfl)) (by first | assumption | omega) (by first | assumption | omega) ((by first | assumption | rfl)) ((by omega)) (by first | assumption | omega) (by first | assumption | omega) ((by first | assumption | rfl))) 0 dX9_readsStatement_74 rfl wl_X9_246 rfl rfl rfl (pm_sel [0, 1, 2] 3 (by decide +kernel) rfl rfl) rfl rfl (Nat.le_of_ble_eq_true rfl) (Nat.le_of_ble_eq_true rfl) (Nat.le_of_ble_eq_true rfl) (Nat.zero_le _) (Nat.zero_le _) (fun v9 w9 R_91 => ?_)
          obtain ⟨vX74, x74, rfl, rfl, gA74, gB74, gF74⟩ := R_91
          show WW κ 0 0 [(a 0, mO a vX74), (a 7, aI (kG κ) 60 f7), (a 41, aI (kG κ) 64 f41)] 77 [(2, .int x65), (1, .int (nI (sg P a0))), (0, .ref (a 0))] [.int x74]
          have gG74 : FRM v vX74 := gG65.trans gF74
          have g874 := gG74.2.1.trans h8
          have gC74 := gG74.2.2.2.trans h42
          refine w_pop (nx := 78) C dX9_readsStatement_77 rfl rfl ?_
          refine w_aload_n (nx := 79) C 2 dX9_readsStatement_78 rfl rfl rfl ?_
          refine w_iconst (nx := 80) C (nI 2) dX9_readsStatement_79 rfl (by decide) ?_
          refine w_callV (nx := 83) (wr := [(a 41, aI (kG κ) 64 f41)]) (rest := []) C mi_X9_number (c_X9_number_n _ _ a vX74 f7 P (a0 + 1) 2 ((by first | assumption | exact h8 | rfl)) (by first | assumption | omega) (by first | assumption | omega) ((by first | assumption | rfl)) ((by omega)) ((by first | assumption | rfl)) (by first | assumption | omega) (by first | assumption | omega)) 0 dX9_readsStatement_80 rfl wl_X9_249 rfl rfl rfl (pm_sel [0, 1, 2] 3 (by decide +kernel) rfl rfl) rfl rfl (Nat.le_of_ble_eq_true rfl) (Nat.le_of_ble_eq_true rfl) (Nat.le_of_ble_eq_true rfl) (Nat.zero_le _) (Nat.zero_le _) (fun v9 w9 R_92 => ?_)
          obtain ⟨vX80, x80, rfl, rfl, gA80, gB80, gF80⟩ := R_92
          show WW κ 0 0 [(a 0, mO a vX80), (a 7, aI (kG κ) 60 f7), (a 41, aI (kG κ) 64 f41)] 83 [(2, .int x65), (1, .int (nI (sg P a0))), (0, .ref (a 0))] [.int x80]
          have gG80 : FRM v vX80 := gG74.trans gF80
          have g880 := gG80.2.1.trans h8
          have gC80 := gG80.2.2.2.trans h42
          refine w_istore_n (nx := 84) (lo2 := [(3, .int x80), (2, .int x65), (1, .int (nI (sg P a0))), (0, .ref (a 0))]) C dX9_readsStatement_83 rfl rfl (by decide) rfl ?_
          refine w_iconst (nx := 85) C (nI 0) dX9_readsStatement_84 rfl (by decide) ?_
          refine w_istore (nx := 87) (lo2 := [(4, .int (nI 0)), (3, .int x80), (2, .int x65), (1, .int (nI (sg P a0))), (0, .ref (a 0))]) C dX9_readsStatement_85 rfl (by decide) rfl ?_
          refine w_iload_n (nx := 88) C 3 dX9_readsStatement_87 rfl rfl rfl ?_
          refine w_bipush (nx := 90) C (nI 100) dX9_readsStatement_88 rfl (by decide) ?_
          refine n_icmp_eq (tg := 124) (nx := 93) C dX9_readsStatement_90 rfl rfl (by omega) (by omega) (fun h_93 => ?_) (fun h_93 => ?_)
          · refine w_aload_n (nx := 125) C 4 dX9_readsStatement_124 rfl rfl rfl ?_
            refine w_getM (nx := 128) C (.int (vX80 40)) 0 40 dX9_readsStatement_125 rfl wl_X9_239 rfl (by decide) rfl (mg_40 _ _) ?_
            refine w_top (nI 0) gA80 ?_
            refine w_if_eq (tg := 216) (nx := 131) C dX9_readsStatement_128 rfl rfl (fun _ => ?_) (fun q9 => absurd (by decide) q9)
            exact w_vret C E dX9_readsStatement_216 rfl (Nat.le_refl _) (Nat.le_refl _) (Or.inr (⟨(a0 + 1), _, rfl, rfl, (stm_2 (Or.inr (Or.inr hlt)) (nmP_none (by omega))), (gA80), (gB80), (gG80.to3)⟩))
          · exfalso; omega
set_option maxHeartbeats 4000000 in
set_option maxRecDepth 100000 in
theorem c_X9_reads (l : Launch) (G : GG) (a : Nat → Nat) (v : Nat → Int32) (f7 : Nat → Int32) (f41 : Nat → Int32) (P : PD) (h8 : v 8 = nI P.1) (hP : rP f7 P) (hw : wfP P) : MT l G yX9_reads cX9_reads 1 (some .int) 5 0 0 [.ref (a 0)] [(a 0, mO a v), (a 7, aI G 60 f7), (a 41, aI G 64 f41)] (fun v9 ws9 => (∃ (a2 : Nat) (v2 : Nat → Int32) (g41 : Nat → Int32), v9 = some (.int (nI a2)) ∧ ws9 = [(a 0, mO a v2), (a 7, aI G 60 f7), (a 41, aI G 64 g41)] ∧ (rdP P).1 = some a2 ∧ FR3 v v2) ∨ (∃ (lq : SQ) (v2 : Nat → Int32) (g41 : Nat → Int32), v9 = some (.int (-6)) ∧ ws9 = [(a 0, mO a v2), (a 7, aI G 60 f7), (a 41, aI G 64 g41)] ∧ rdP P = (none, lq) ∧ FR3 v v2 ∧ rQ g41 lq ∧ lq.1 ≤ 13 ∧ v2 42 = nI lq.1)) := by
  refine MT.of RX9 [(0, .ref (a 0))] (by decide +kernel) rfl rfl (Nat.le_of_ble_eq_true rfl) (fun κ C E hl9 hG9 hnm9 => ?_)
  subst hl9; subst hG9
  have hz9 := hw.1
  refine w_aload_n (nx := 1) C 0 dX9_reads_0 rfl rfl rfl ?_
  refine w_iconst (nx := 2) C (nI 0) dX9_reads_1 rfl (by decide) ?_
  refine w_putM (nx := 5) (ws2 := [(a 0, mO a (upd v 39 (nI 0))), (a 7, aI (kG κ) 60 f7), (a 41, aI (kG κ) 64 f41)]) C 0 39 dX9_reads_2 rfl wl_X9_236 rfl (by decide) rfl rfl rfl (ms_39 _ _ _) rfl ?_
  refine w_aload_n (nx := 6) C 0 dX9_reads_5 rfl rfl rfl ?_
  refine w_iconst (nx := 7) C (nI 1) dX9_reads_6 rfl (by decide) ?_
  refine w_putM (nx := 10) (ws2 := [(a 0, mO a (upd (upd v 39 (nI 0)) 40 (nI 1))), (a 7, aI (kG κ) 60 f7), (a 41, aI (kG κ) 64 f41)]) C 0 40 dX9_reads_7 rfl wl_X9_239 rfl (by decide) rfl rfl rfl (ms_40 _ _ _) rfl ?_
  refine w_aload_n (nx := 11) C 0 dX9_reads_10 rfl rfl rfl ?_
  refine w_iconst (nx := 12) C (nI 0) dX9_reads_11 rfl (by decide) ?_
  refine w_putM (nx := 15) (ws2 := [(a 0, mO a (upd (upd (upd v 39 (nI 0)) 40 (nI 1)) 42 (nI 0))), (a 7, aI (kG κ) 60 f7), (a 41, aI (kG κ) 64 f41)]) C 0 42 dX9_reads_12 rfl wl_X9_252 rfl (by decide) rfl rfl rfl (ms_42 _ _ _) rfl ?_
  refine w_aload_n (nx := 16) C 0 dX9_reads_15 rfl rfl rfl ?_
  refine w_callV (nx := 19) (wr := []) (rest := []) C mi_X9_readsStatement (c_X9_readsStatement _ _ a (upd (upd (upd v 39 (nI 0)) 40 (nI 1)) 42 (nI 0)) f7 f41 P 0 ((0, fun _ => (0, 0, 0, 0)) : SQ) (h8) (by first | assumption | omega) (by first | assumption | omega) (rfl) (by decide) (rfl) (rfl) (rQ_no) (by decide)) 0 dX9_reads_16 rfl wl_X9_255 rfl rfl rfl (pm_sel [0, 1, 2] 3 (by decide +kernel) rfl rfl) rfl rfl (Nat.le_of_ble_eq_true rfl) (Nat.le_of_ble_eq_true rfl) (Nat.le_of_ble_eq_true rfl) (Nat.zero_le _) (Nat.zero_le _) (fun v9 w9 R_1 => ?_)
  rcases R_1 with ⟨xA, aA, vA, gA41, rfl, rfl, hA1, hA40, hA39, hA42, hAF, hAQ⟩ | ⟨aN, vN, rfl, rfl, hN1, hN40, hN39, hNF⟩
  · show WW κ 0 0 [(a 0, mO a vA), (a 7, aI (kG κ) 60 f7), (a 41, aI (kG κ) 64 gA41)] 19 [(0, .ref (a 0))] []
    have LP_2 : ∀ (N9_19 : Nat) (m : Nat) (a1 : Nat) (lq : SQ) (w : Nat) (vv : Nat → Int32) (p41 : Nat → Int32), (w ≤ 1) → (1 ≤ m) → (a1 ≤ P.1) → (vv 40 = nI w) → (vv 39 = nI a1) → (vv 8 = nI P.1) → (FR3 v vv) → ((w = 1 ∧ rdP P = (if P.1 ≤ a1 then (none, lq) else if sg P a1 = 59 then prsP P (13 - m) (a1 + 1) lq else (some a1, lq)) ∧ vv 42 = nI lq.1 ∧ lq.1 = m ∧ rQ p41 lq ∧ 5 * m ≤ a1 + 1) ∨ (w = 0 ∧ (rdP P).1 = some a1)) → (w * 61 + (60 - a1)) < N9_19 → WW κ 0 0 [(a 0, mO a vv), (a 7, aI (kG κ) 60 f7), (a 41, aI (kG κ) 64 p41)] 19 [(0, .ref (a 0))] [] := by
      intro N9_19
      induction N9_19 with
      | zero => intro m a1 lq w vv p41 hw1 hm ha1 hv40 hv39 hv8 hvF hc hm9_19; exact absurd hm9_19 (Nat.not_lt_zero _)
      | succ N9_19 ih9_19 =>
        intro m a1 lq w vv p41 hw1 hm ha1 hv40 hv39 hv8 hvF hc hm9_19
        refine w_aload_n (nx := 20) C 0 dX9_reads_19 rfl rfl rfl ?_
        refine w_getM (nx := 23) C (.int (vv 40)) 0 40 dX9_reads_20 rfl wl_X9_239 rfl (by decide) rfl (mg_40 _ _) ?_
        refine w_top (nI w) hv40 ?_
        refine n_if_eq (tg := 60) (nx := 26) C dX9_reads_23 rfl rfl (by omega) (fun h_3 => ?_) (fun h_3 => ?_)
        · have hw0 : w = 0 := by omega
          have hr9 : (rdP P).1 = some a1 := by
            rcases hc with ⟨h9, -⟩ | ⟨-, h9⟩
            · omega
            · exact h9
          refine w_aload_n (nx := 61) C 0 dX9_reads_60 rfl rfl rfl ?_
          refine w_getM (nx := 64) C (.int (vv 40)) 0 40 dX9_reads_61 rfl wl_X9_239 rfl (by decide) rfl (mg_40 _ _) ?_
          refine w_top (nI w) hv40 ?_
          refine n_if_eq (tg := 72) (nx := 67) C dX9_reads_64 rfl rfl (by omega) (fun h_4 => ?_) (fun h_4 => ?_)
          · refine w_aload_n (nx := 73) C 0 dX9_reads_72 rfl rfl rfl ?_
            refine w_getM (nx := 76) C (.int (vv 39)) 0 39 dX9_reads_73 rfl wl_X9_236 rfl (by decide) rfl (mg_39 _ _) ?_
            refine w_top (nI a1) hv39 ?_
            exact w_iret (ty := .int) C E dX9_reads_76 rfl rfl (Nat.le_refl _) (Nat.le_refl _) (Or.inl ⟨a1, _, _, rfl, rfl, (hr9), (hvF)⟩)
          · exfalso; omega
        · have hw0 : w = 1 := by omega
          have hc9 : rdP P = (if P.1 ≤ a1 then (none, lq) else if sg P a1 = 59 then prsP P (13 - m) (a1 + 1) lq else (some a1, lq)) ∧ vv 42 = nI lq.1 ∧ lq.1 = m ∧ rQ p41 lq ∧ 5 * m ≤ a1 + 1 := by
            rcases hc with ⟨-, h9⟩ | ⟨h9, -⟩
            · exact h9
            · omega
          obtain ⟨hrd, hv42, hlm, hvQ, h5m⟩ := hc9
          refine w_aload_n (nx := 27) C 0 dX9_reads_26 rfl rfl rfl ?_
          refine w_getM (nx := 30) C (.int (vv 39)) 0 39 dX9_reads_27 rfl wl_X9_236 rfl (by decide) rfl (mg_39 _ _) ?_
          refine w_top (nI a1) hv39 ?_
          refine w_aload_n (nx := 31) C 0 dX9_reads_30 rfl rfl rfl ?_
          refine w_getM (nx := 34) C (.int (vv 8)) 0 8 dX9_reads_31 rfl wl_X9_231 rfl (by decide) rfl (mg_8 _ _) ?_
          refine w_top (nI P.1) hv8 ?_
          refine n_icmp_ge (tg := 60) (nx := 37) C dX9_reads_34 rfl rfl (by omega) (by omega) (fun h_5 => ?_) (fun h_5 => ?_)
          · have hr9 : rdP P = (none, lq) := by rw [hrd, if_pos (by omega)]
            refine w_aload_n (nx := 61) C 0 dX9_reads_60 rfl rfl rfl ?_
            refine w_getM (nx := 64) C (.int (vv 40)) 0 40 dX9_reads_61 rfl wl_X9_239 rfl (by decide) rfl (mg_40 _ _) ?_
            refine w_top (nI w) hv40 ?_
            refine n_if_eq (tg := 72) (nx := 67) C dX9_reads_64 rfl rfl (by omega) (fun h_6 => ?_) (fun h_6 => ?_)
            · exfalso; omega
            · refine w_bipush (nx := 69) C (-6) dX9_reads_67 rfl (by decide) ?_
              refine w_goto (nx := 76) C dX9_reads_69 rfl ?_
              exact w_iret (ty := .int) C E dX9_reads_76 rfl rfl (Nat.le_refl _) (Nat.le_refl _) (Or.inr (⟨lq, _, _, rfl, rfl, (hr9), (hvF), (hvQ), (by omega), (hv42)⟩))
          · refine w_aload_n (nx := 38) C 0 dX9_reads_37 rfl rfl rfl ?_
            refine w_bipush (nx := 40) C (nI 59) dX9_reads_38 rfl (by decide) ?_
            refine w_bipush (nx := 42) C (nI 59) dX9_reads_40 rfl (by decide) ?_
            refine w_callV (nx := 45) (wr := [(a 41, aI (kG κ) 64 p41)]) (rest := []) C mi_X9_takes (c_X9_takes_w _ _ a vv f7 P a1 59 59 (hv8) (by first | assumption | omega) (by first | assumption | omega) (hv39) (by omega) (by first | assumption | omega) (by first | assumption | omega) (by rw [hv40]; exact congrArg nI (by omega))) 0 dX9_reads_42 rfl wl_X9_246 rfl rfl rfl (pm_sel [0, 1, 2] 3 (by decide +kernel) rfl rfl) rfl rfl (Nat.le_of_ble_eq_true rfl) (Nat.le_of_ble_eq_true rfl) (Nat.le_of_ble_eq_true rfl) (Nat.zero_le _) (Nat.zero_le _) (fun v9 w9 R_7 => ?_)
            rcases R_7 with ⟨vT, rfl, rfl, hT1, hT2, hT40, hT39, hTF⟩ | ⟨vU, xU, rfl, rfl, hU1, hU40, hU39, hUF⟩
            · show WW κ 0 0 [(a 0, mO a vT), (a 7, aI (kG κ) 60 f7), (a 41, aI (kG κ) 64 p41)] 45 [(0, .ref (a 0))] [.int (nI (sg P a1 - 59))]
              have h59 : sg P a1 = 59 := by omega
              refine w_pop (nx := 46) C dX9_reads_45 rfl rfl ?_
              refine w_aload_n (nx := 47) C 0 dX9_reads_46 rfl rfl rfl ?_
              refine w_getM (nx := 50) C (.int (vT 40)) 0 40 dX9_reads_47 rfl wl_X9_239 rfl (by decide) rfl (mg_40 _ _) ?_
              refine w_top (nI 1) hT40 ?_
              refine w_if_eq (tg := 19) (nx := 53) C dX9_reads_50 rfl rfl (fun q9 => absurd q9 (by decide)) (fun _ => ?_)
              refine w_aload_n (nx := 54) C 0 dX9_reads_53 rfl rfl rfl ?_
              refine w_callV (nx := 57) (wr := []) (rest := []) C mi_X9_readsStatement (c_X9_readsStatement _ _ a vT f7 p41 P (a1 + 1) lq (hTF.2.1.trans hv8) (by first | assumption | omega) (by first | assumption | omega) (hT39) (by omega) (hT40) (hTF.2.2.2.trans hv42) (hvQ) (by omega)) 0 dX9_reads_54 rfl wl_X9_255 rfl rfl rfl (pm_sel [0, 1, 2] 3 (by decide +kernel) rfl rfl) rfl rfl (Nat.le_of_ble_eq_true rfl) (Nat.le_of_ble_eq_true rfl) (Nat.le_of_ble_eq_true rfl) (Nat.zero_le _) (Nat.zero_le _) (fun v9 w9 R_9 => ?_)
              rcases R_9 with ⟨xB, aB, vB, gB41, rfl, rfl, hB1, hB40, hB39, hB42, hBF, hBQ⟩ | ⟨aM, vM, rfl, rfl, hM1, hM40, hM39, hMF⟩
              · show WW κ 0 0 [(a 0, mO a vB), (a 7, aI (kG κ) 60 f7), (a 41, aI (kG κ) 64 gB41)] 57 [(0, .ref (a 0))] []
                refine w_goto (nx := 19) C dX9_reads_57 rfl ?_
                exact ih9_19 (m + 1) aB (psh lq xB) 1 vB gB41 (Nat.le_refl _) (by omega) ((stm_le hB1).2) (hB40) (hB39) (hBF.2.1.trans (hTF.2.1.trans hv8)) (hvF.trans (hTF.to3.trans hBF)) (Or.inl ⟨rfl, by rw [hrd, if_neg (by omega), if_pos h59, show 13 - m = 13 - (m + 1) + 1 by omega]; by_cases e9 : P.1 ≤ aB; rw [prs_2 hB1 e9, if_pos e9]; by_cases e8 : sg P aB = 59; rw [prs_3 hB1 e9 e8, if_neg e9, if_pos e8]; rw [prs_4 hB1 e9 e8, if_neg e9, if_neg e8], hB42, congrArg (fun z => z + 1) hlm, hBQ, by have := (stm_le hB1).1; omega⟩) (by first | omega | (have h9 := stm_le hB1; omega))
              · show WW κ 0 0 [(a 0, mO a vM), (a 7, aI (kG κ) 60 f7), (a 41, aI (kG κ) 64 p41)] 57 [(0, .ref (a 0))] []
                refine w_goto (nx := 19) C dX9_reads_57 rfl ?_
                exact ih9_19 (m + 1) aM lq 0 vM p41 (Nat.zero_le _) (by omega) (stm_le2 (by have := sg_lt (P := P) (a := a1) (by omega); omega) hM1) (hM40) (hM39) (hMF.2.1.trans (hTF.2.1.trans hv8)) (hvF.trans (hTF.to3.trans hMF)) (Or.inr ⟨rfl, by rw [hrd, if_neg (by omega), if_pos h59, show 13 - m = 13 - (m + 1) + 1 by omega, prs_1 hM1]⟩) (by first | omega | (have h9 := stm_le hB1; omega))
            · show WW κ 0 0 [(a 0, mO a vU), (a 7, aI (kG κ) 60 f7), (a 41, aI (kG κ) 64 p41)] 45 [(0, .ref (a 0))] [.int xU]
              refine w_pop (nx := 46) C dX9_reads_45 rfl rfl ?_
              refine w_aload_n (nx := 47) C 0 dX9_reads_46 rfl rfl rfl ?_
              refine w_getM (nx := 50) C (.int (vU 40)) 0 40 dX9_reads_47 rfl wl_X9_239 rfl (by decide) rfl (mg_40 _ _) ?_
              refine w_top (nI 0) hU40 ?_
              refine w_if_eq (tg := 19) (nx := 53) C dX9_reads_50 rfl rfl (fun _ => ?_) (fun q9 => absurd (by decide) q9)
              exact ih9_19 (m + 1) a1 lq 0 vU p41 (Nat.zero_le _) (by omega) (ha1) (hU40) (hU39) (hUF.2.1.trans hv8) (hvF.trans hUF.to3) (Or.inr ⟨rfl, by rw [hrd, if_neg (by omega), if_neg (by omega)]⟩) (by first | omega | (have h9 := stm_le hB1; omega))
    exact LP_2 _ 1 aA (psh ((0, fun _ => (0, 0, 0, 0)) : SQ) xA) 1 vA gA41 (Nat.le_refl _) (Nat.le_refl _) ((stm_le hA1).2) (hA40) (hA39) (hAF.2.1.trans h8) (⟨hAF.1, hAF.2.1, hAF.2.2⟩) (Or.inl ⟨rfl, by show prsP P 13 0 ((0, fun _ => (0, 0, 0, 0)) : SQ) = _; by_cases e9 : P.1 ≤ aA; rw [prs_2 hA1 e9, if_pos e9]; by_cases e8 : sg P aA = 59; rw [prs_3 hA1 e9 e8, if_neg e9, if_pos e8]; rw [prs_4 hA1 e9 e8, if_neg e9, if_neg e8], hA42, rfl, hAQ, by have := (stm_le hA1).1; omega⟩) (Nat.lt_succ_self _)
  · show WW κ 0 0 [(a 0, mO a vN), (a 7, aI (kG κ) 60 f7), (a 41, aI (kG κ) 64 f41)] 19 [(0, .ref (a 0))] []
    have LP_11 : ∀ (N9_19 : Nat) (m : Nat) (a1 : Nat) (lq : SQ) (w : Nat) (vv : Nat → Int32) (p41 : Nat → Int32), (w ≤ 1) → (1 ≤ m) → (a1 ≤ P.1) → (vv 40 = nI w) → (vv 39 = nI a1) → (vv 8 = nI P.1) → (FR3 v vv) → ((w = 1 ∧ rdP P = (if P.1 ≤ a1 then (none, lq) else if sg P a1 = 59 then prsP P (13 - m) (a1 + 1) lq else (some a1, lq)) ∧ vv 42 = nI lq.1 ∧ lq.1 = m ∧ rQ p41 lq ∧ 5 * m ≤ a1 + 1) ∨ (w = 0 ∧ (rdP P).1 = some a1)) → (w * 61 + (60 - a1)) < N9_19 → WW κ 0 0 [(a 0, mO a vv), (a 7, aI (kG κ) 60 f7), (a 41, aI (kG κ) 64 p41)] 19 [(0, .ref (a 0))] [] := by
      intro N9_19
      induction N9_19 with
      | zero => intro m a1 lq w vv p41 hw1 hm ha1 hv40 hv39 hv8 hvF hc hm9_19; exact absurd hm9_19 (Nat.not_lt_zero _)
      | succ N9_19 ih9_19 =>
        intro m a1 lq w vv p41 hw1 hm ha1 hv40 hv39 hv8 hvF hc hm9_19
        refine w_aload_n (nx := 20) C 0 dX9_reads_19 rfl rfl rfl ?_
        refine w_getM (nx := 23) C (.int (vv 40)) 0 40 dX9_reads_20 rfl wl_X9_239 rfl (by decide) rfl (mg_40 _ _) ?_
        refine w_top (nI w) hv40 ?_
        refine n_if_eq (tg := 60) (nx := 26) C dX9_reads_23 rfl rfl (by omega) (fun h_12 => ?_) (fun h_12 => ?_)
        · have hw0 : w = 0 := by omega
          have hr9 : (rdP P).1 = some a1 := by
            rcases hc with ⟨h9, -⟩ | ⟨-, h9⟩
            · omega
            · exact h9
          refine w_aload_n (nx := 61) C 0 dX9_reads_60 rfl rfl rfl ?_
          refine w_getM (nx := 64) C (.int (vv 40)) 0 40 dX9_reads_61 rfl wl_X9_239 rfl (by decide) rfl (mg_40 _ _) ?_
          refine w_top (nI w) hv40 ?_
          refine n_if_eq (tg := 72) (nx := 67) C dX9_reads_64 rfl rfl (by omega) (fun h_13 => ?_) (fun h_13 => ?_)
          · refine w_aload_n (nx := 73) C 0 dX9_reads_72 rfl rfl rfl ?_
            refine w_getM (nx := 76) C (.int (vv 39)) 0 39 dX9_reads_73 rfl wl_X9_236 rfl (by decide) rfl (mg_39 _ _) ?_
            refine w_top (nI a1) hv39 ?_
            exact w_iret (ty := .int) C E dX9_reads_76 rfl rfl (Nat.le_refl _) (Nat.le_refl _) (Or.inl ⟨a1, _, _, rfl, rfl, (hr9), (hvF)⟩)
          · exfalso; omega
        · have hw0 : w = 1 := by omega
          have hc9 : rdP P = (if P.1 ≤ a1 then (none, lq) else if sg P a1 = 59 then prsP P (13 - m) (a1 + 1) lq else (some a1, lq)) ∧ vv 42 = nI lq.1 ∧ lq.1 = m ∧ rQ p41 lq ∧ 5 * m ≤ a1 + 1 := by
            rcases hc with ⟨-, h9⟩ | ⟨h9, -⟩
            · exact h9
            · omega
          obtain ⟨hrd, hv42, hlm, hvQ, h5m⟩ := hc9
          refine w_aload_n (nx := 27) C 0 dX9_reads_26 rfl rfl rfl ?_
          refine w_getM (nx := 30) C (.int (vv 39)) 0 39 dX9_reads_27 rfl wl_X9_236 rfl (by decide) rfl (mg_39 _ _) ?_
          refine w_top (nI a1) hv39 ?_
          refine w_aload_n (nx := 31) C 0 dX9_reads_30 rfl rfl rfl ?_
          refine w_getM (nx := 34) C (.int (vv 8)) 0 8 dX9_reads_31 rfl wl_X9_231 rfl (by decide) rfl (mg_8 _ _) ?_
          refine w_top (nI P.1) hv8 ?_
          refine n_icmp_ge (tg := 60) (nx := 37) C dX9_reads_34 rfl rfl (by omega) (by omega) (fun h_14 => ?_) (fun h_14 => ?_)
          · have hr9 : rdP P = (none, lq) := by rw [hrd, if_pos (by omega)]
            refine w_aload_n (nx := 61) C 0 dX9_reads_60 rfl rfl rfl ?_
            refine w_getM (nx := 64) C (.int (vv 40)) 0 40 dX9_reads_61 rfl wl_X9_239 rfl (by decide) rfl (mg_40 _ _) ?_
            refine w_top (nI w) hv40 ?_
            refine n_if_eq (tg := 72) (nx := 67) C dX9_reads_64 rfl rfl (by omega) (fun h_15 => ?_) (fun h_15 => ?_)
            · exfalso; omega
            · refine w_bipush (nx := 69) C (-6) dX9_reads_67 rfl (by decide) ?_
              refine w_goto (nx := 76) C dX9_reads_69 rfl ?_
              exact w_iret (ty := .int) C E dX9_reads_76 rfl rfl (Nat.le_refl _) (Nat.le_refl _) (Or.inr (⟨lq, _, _, rfl, rfl, (hr9), (hvF), (hvQ), (by omega), (hv42)⟩))
          · refine w_aload_n (nx := 38) C 0 dX9_reads_37 rfl rfl rfl ?_
            refine w_bipush (nx := 40) C (nI 59) dX9_reads_38 rfl (by decide) ?_
            refine w_bipush (nx := 42) C (nI 59) dX9_reads_40 rfl (by decide) ?_
            refine w_callV (nx := 45) (wr := [(a 41, aI (kG κ) 64 p41)]) (rest := []) C mi_X9_takes (c_X9_takes_w _ _ a vv f7 P a1 59 59 (hv8) (by first | assumption | omega) (by first | assumption | omega) (hv39) (by omega) (by first | assumption | omega) (by first | assumption | omega) (by rw [hv40]; exact congrArg nI (by omega))) 0 dX9_reads_42 rfl wl_X9_246 rfl rfl rfl (pm_sel [0, 1, 2] 3 (by decide +kernel) rfl rfl) rfl rfl (Nat.le_of_ble_eq_true rfl) (Nat.le_of_ble_eq_true rfl) (Nat.le_of_ble_eq_true rfl) (Nat.zero_le _) (Nat.zero_le _) (fun v9 w9 R_16 => ?_)
            rcases R_16 with ⟨vT, rfl, rfl, hT1, hT2, hT40, hT39, hTF⟩ | ⟨vU, xU, rfl, rfl, hU1, hU40, hU39, hUF⟩
            · show WW κ 0 0 [(a 0, mO a vT), (a 7, aI (kG κ) 60 f7), (a 41, aI (kG κ) 64 p41)] 45 [(0, .ref (a 0))] [.int (nI (sg P a1 - 59))]
              have h59 : sg P a1 = 59 := by omega
              refine w_pop (nx := 46) C dX9_reads_45 rfl rfl ?_
              refine w_aload_n (nx := 47) C 0 dX9_reads_46 rfl rfl rfl ?_
              refine w_getM (nx := 50) C (.int (vT 40)) 0 40 dX9_reads_47 rfl wl_X9_239 rfl (by decide) rfl (mg_40 _ _) ?_
              refine w_top (nI 1) hT40 ?_
              refine w_if_eq (tg := 19) (nx := 53) C dX9_reads_50 rfl rfl (fun q9 => absurd q9 (by decide)) (fun _ => ?_)
              refine w_aload_n (nx := 54) C 0 dX9_reads_53 rfl rfl rfl ?_
              refine w_callV (nx := 57) (wr := []) (rest := []) C mi_X9_readsStatement (c_X9_readsStatement _ _ a vT f7 p41 P (a1 + 1) lq (hTF.2.1.trans hv8) (by first | assumption | omega) (by first | assumption | omega) (hT39) (by omega) (hT40) (hTF.2.2.2.trans hv42) (hvQ) (by omega)) 0 dX9_reads_54 rfl wl_X9_255 rfl rfl rfl (pm_sel [0, 1, 2] 3 (by decide +kernel) rfl rfl) rfl rfl (Nat.le_of_ble_eq_true rfl) (Nat.le_of_ble_eq_true rfl) (Nat.le_of_ble_eq_true rfl) (Nat.zero_le _) (Nat.zero_le _) (fun v9 w9 R_18 => ?_)
              rcases R_18 with ⟨xB, aB, vB, gB41, rfl, rfl, hB1, hB40, hB39, hB42, hBF, hBQ⟩ | ⟨aM, vM, rfl, rfl, hM1, hM40, hM39, hMF⟩
              · show WW κ 0 0 [(a 0, mO a vB), (a 7, aI (kG κ) 60 f7), (a 41, aI (kG κ) 64 gB41)] 57 [(0, .ref (a 0))] []
                refine w_goto (nx := 19) C dX9_reads_57 rfl ?_
                exact ih9_19 (m + 1) aB (psh lq xB) 1 vB gB41 (Nat.le_refl _) (by omega) ((stm_le hB1).2) (hB40) (hB39) (hBF.2.1.trans (hTF.2.1.trans hv8)) (hvF.trans (hTF.to3.trans hBF)) (Or.inl ⟨rfl, by rw [hrd, if_neg (by omega), if_pos h59, show 13 - m = 13 - (m + 1) + 1 by omega]; by_cases e9 : P.1 ≤ aB; rw [prs_2 hB1 e9, if_pos e9]; by_cases e8 : sg P aB = 59; rw [prs_3 hB1 e9 e8, if_neg e9, if_pos e8]; rw [prs_4 hB1 e9 e8, if_neg e9, if_neg e8], hB42, congrArg (fun z => z + 1) hlm, hBQ, by have := (stm_le hB1).1; omega⟩) (by first | omega | (have h9 := stm_le hB1; omega))
              · show WW κ 0 0 [(a 0, mO a vM), (a 7, aI (kG κ) 60 f7), (a 41, aI (kG κ) 64 p41)] 57 [(0, .ref (a 0))] []
                refine w_goto (nx := 19) C dX9_reads_57 rfl ?_
                exact ih9_19 (m + 1) aM lq 0 vM p41 (Nat.zero_le _) (by omega) (stm_le2 (by have := sg_lt (P := P) (a := a1) (by omega); omega) hM1) (hM40) (hM39) (hMF.2.1.trans (hTF.2.1.trans hv8)) (hvF.trans (hTF.to3.trans hMF)) (Or.inr ⟨rfl, by rw [hrd, if_neg (by omega), if_pos h59, show 13 - m = 13 - (m + 1) + 1 by omega, prs_1 hM1]⟩) (by first | omega | (have h9 := stm_le hB1; omega))
            · show WW κ 0 0 [(a 0, mO a vU), (a 7, aI (kG κ) 60 f7), (a 41, aI (kG κ) 64 p41)] 45 [(0, .ref (a 0))] [.int xU]
              refine w_pop (nx := 46) C dX9_reads_45 rfl rfl ?_
              refine w_aload_n (nx := 47) C 0 dX9_reads_46 rfl rfl rfl ?_
              refine w_getM (nx := 50) C (.int (vU 40)) 0 40 dX9_reads_47 rfl wl_X9_239 rfl (by decide) rfl (mg_40 _ _) ?_
              refine w_top (nI 0) hU40 ?_
              refine w_if_eq (tg := 19) (nx := 53) C dX9_reads_50 rfl rfl (fun _ => ?_) (fun q9 => absurd (by decide) q9)
              exact ih9_19 (m + 1) a1 lq 0 vU p41 (Nat.zero_le _) (by omega) (ha1) (hU40) (hU39) (hUF.2.1.trans hv8) (hvF.trans hUF.to3) (Or.inr ⟨rfl, by rw [hrd, if_neg (by omega), if_neg (by omega)]⟩) (by first | omega | (have h9 := stm_le hB1; omega))
    exact LP_11 _ 1 aN ((0, fun _ => (0, 0, 0, 0)) : SQ) 0 vN f41 (Nat.zero_le _) (Nat.le_refl _) (stm_le2 (Nat.zero_le _) hN1) (hN40) (hN39) (hNF.2.1.trans h8) (⟨hNF.1, hNF.2.1, hNF.2.2⟩) (Or.inr ⟨rfl, by show (prsP P 13 0 ((0, fun _ => (0, 0, 0, 0)) : SQ)).1 = _; rw [prs_1 hN1]⟩) (Nat.lt_succ_self _)
set_option maxHeartbeats 4000000 in
set_option maxRecDepth 100000 in
theorem c_X9_fault (l : Launch) (G : GG) (h : Nat) (w : va_W) (X : SX) (hRX : RMX G h w X) : MT l G yX9_fault cX9_fault 1 (some .int) 6 0 0 [.ref h] ((w)) (fun v9 ws9 => ∃ (w2 : va_W), v9 = some (.int ((o_fault X).1)) ∧ ws9 = ((w2)) ∧ RMX G h w2 (o_fault X).2) := by
  refine RMX_elim hRX (fun a v f1 f2 f3 f5 f6 f7 f17 f21 f22 f23 f24 f25 f26 f27 f28 f29 f31 f32 f33 f34 f35 f36 f37 f38 f41 hw9 hh hO hS hU hUn hSl hPd h18 => ?_)
  subst hw9
  subst hh
  refine MT.of RX9 [(0, .ref (a 0))] (by decide +kernel) rfl rfl (Nat.le_of_ble_eq_true rfl) (fun κ C E hl9 hG9 hnm9 => ?_)
  subst hl9; subst hG9
  have hn12 := hO.1.2.2.2.1.1
  have hj100 := hO.1.2.2.2.2
  have hz6 := hO.2.1.1
  have hp60 := hO.2.2.2.1
  have hd8 := hO.1.1
  have hl1 := hO.1.2.1
  have hzT := hO.1.2.2.1
  refine w_aload_n (nx := 1) C 0 dX9_fault_0 rfl rfl rfl ?_
  refine w_iconst (nx := 2) C (nI 0) dX9_fault_1 rfl (by decide) ?_
  refine w_putM (nx := 5) (ws2 := [(a 0, mO a (upd v 0 (nI 0))), (a 1, aI (kG κ) 800 f1), (a 2, aI (kG κ) 800 f2), (a 3, aI (kG κ) 4800 f3), (a 5, aI (kG κ) 1600 f5), (a 6, aZ (kG κ) 2 f6), (a 7, aI (kG κ) 60 f7), (a 17, aI (kG κ) 12 f17), (a 21, aI (kG κ) 12 f21), (a 22, aI (kG κ) 12 f22), (a 23, aI (kG κ) 12 f23), (a 24, aI (kG κ) 12 f24), (a 25, aI (kG κ) 12 f25), (a 26, aI (kG κ) 12 f26), (a 27, aI (kG κ) 12 f27), (a 28, aI (kG κ) 12 f28), (a 29, aZ (kG κ) 4 f29), (a 31, aI (kG κ) 1300 f31), (a 32, aI (kG κ) 1300 f32), (a 33, aI (kG κ) 1300 f33), (a 34, aI (kG κ) 1300 f34), (a 35, aI (kG κ) 13000 f35), (a 36, aI (kG κ) 606 f36), (a 37, aI (kG κ) 12 f37), (a 38, aI (kG κ) 12 f38), (a 41, aI (kG κ) 64 f41)]) C 0 0 dX9_fault_2 rfl wl_X9_90 rfl (by decide) rfl rfl rfl (ms_0 _ _ _) rfl ?_
  refine w_aload_n (nx := 6) C 0 dX9_fault_5 rfl rfl rfl ?_
  refine w_callV (nx := 9) (wr := [(a 1, aI (kG κ) 800 f1), (a 2, aI (kG κ) 800 f2), (a 3, aI (kG κ) 4800 f3), (a 5, aI (kG κ) 1600 f5), (a 6, aZ (kG κ) 2 f6), (a 17, aI (kG κ) 12 f17), (a 21, aI (kG κ) 12 f21), (a 22, aI (kG κ) 12 f22), (a 23, aI (kG κ) 12 f23), (a 24, aI (kG κ) 12 f24), (a 25, aI (kG κ) 12 f25), (a 26, aI (kG κ) 12 f26), (a 27, aI (kG κ) 12 f27), (a 28, aI (kG κ) 12 f28), (a 29, aZ (kG κ) 4 f29), (a 31, aI (kG κ) 1300 f31), (a 32, aI (kG κ) 1300 f32), (a 33, aI (kG κ) 1300 f33), (a 34, aI (kG κ) 1300 f34), (a 35, aI (kG κ) 13000 f35), (a 36, aI (kG κ) 606 f36), (a 37, aI (kG κ) 12 f37), (a 38, aI (kG κ) 12 f38)]) (rest := []) C mi_X9_reads (c_X9_reads _ _ a (upd v 0 (nI 0)) f7 f41 (xP X) (hPd.1) (hPd.2) (hO.2.2.2)) 0 dX9_fault_6 rfl wl_X9_258 rfl rfl rfl (pm_sel [0, 6, 25, 1, 2, 3, 4, 5, 7, 8, 9, 10, 11, 12, 13, 14, 15, 16, 17, 18, 19, 20, 21, 22, 23, 24] 26 (by decide +kernel) rfl rfl) rfl rfl (Nat.le_of_ble_eq_true rfl) (Nat.le_of_ble_eq_true rfl) (Nat.le_of_ble_eq_true rfl) (Nat.zero_le _) (Nat.zero_le _) (fun v9 w9 R_1 => ?_)
  rcases R_1 with ⟨a2_2, vP, g41_3, rfl, rfl, hrd, gP⟩ | ⟨lq_4, vP, g41_5, rfl, rfl, hrd, gP, hQ2_6, hl2_7, h42_8⟩
  · show WW κ 0 0 [(a 0, mO a vP), (a 7, aI (kG κ) 60 f7), (a 41, aI (kG κ) 64 g41_3), (a 1, aI (kG κ) 800 f1), (a 2, aI (kG κ) 800 f2), (a 3, aI (kG κ) 4800 f3), (a 5, aI (kG κ) 1600 f5), (a 6, aZ (kG κ) 2 f6), (a 17, aI (kG κ) 12 f17), (a 21, aI (kG κ) 12 f21), (a 22, aI (kG κ) 12 f22), (a 23, aI (kG κ) 12 f23), (a 24, aI (kG κ) 12 f24), (a 25, aI (kG κ) 12 f25), (a 26, aI (kG κ) 12 f26), (a 27, aI (kG κ) 12 f27), (a 28, aI (kG κ) 12 f28), (a 29, aZ (kG κ) 4 f29), (a 31, aI (kG κ) 1300 f31), (a 32, aI (kG κ) 1300 f32), (a 33, aI (kG κ) 1300 f33), (a 34, aI (kG κ) 1300 f34), (a 35, aI (kG κ) 13000 f35), (a 36, aI (kG κ) 606 f36), (a 37, aI (kG κ) 12 f37), (a 38, aI (kG κ) 12 f38)] 9 [(0, .ref (a 0))] [.int (nI a2_2)]
    refine ww_sel (l := [(a 0, mO a vP), (a 1, aI (kG κ) 800 f1), (a 2, aI (kG κ) 800 f2), (a 3, aI (kG κ) 4800 f3), (a 5, aI (kG κ) 1600 f5), (a 6, aZ (kG κ) 2 f6), (a 7, aI (kG κ) 60 f7), (a 17, aI (kG κ) 12 f17), (a 21, aI (kG κ) 12 f21), (a 22, aI (kG κ) 12 f22), (a 23, aI (kG κ) 12 f23), (a 24, aI (kG κ) 12 f24), (a 25, aI (kG κ) 12 f25), (a 26, aI (kG κ) 12 f26), (a 27, aI (kG κ) 12 f27), (a 28, aI (kG κ) 12 f28), (a 29, aZ (kG κ) 4 f29), (a 31, aI (kG κ) 1300 f31), (a 32, aI (kG κ) 1300 f32), (a 33, aI (kG κ) 1300 f33), (a 34, aI (kG κ) 1300 f34), (a 35, aI (kG κ) 13000 f35), (a 36, aI (kG κ) 606 f36), (a 37, aI (kG κ) 12 f37), (a 38, aI (kG κ) 12 f38), (a 41, aI (kG κ) 64 g41_3)]) (pm_sel [0, 3, 4, 5, 6, 7, 1, 8, 9, 10, 11, 12, 13, 14, 15, 16, 17, 18, 19, 20, 21, 22, 23, 24, 25, 2] 26 (by decide +kernel) rfl rfl) ?_
    have ho9 : o_fault X = ((nI a2_2), X) := by unfold o_fault; rw [hrd]
    refine w_iret (ty := .int) C E dX9_fault_9 rfl rfl (Nat.le_refl _) (Nat.le_refl _) ?_
    rw [ho9]
    exact ⟨_, rfl, rfl, _, _, _, _, _, _, _, _, _, _, _, _, _, _, _, _, _, _, _, _, _, _, _, _, _, _, _, rfl, rfl, hO, hS, (gP.1.trans hU), hUn, hSl, (⟨gP.2.1.trans hPd.1, hPd.2⟩), (gP.2.2.trans h18)⟩
  · show WW κ 0 0 [(a 0, mO a vP), (a 7, aI (kG κ) 60 f7), (a 41, aI (kG κ) 64 g41_5), (a 1, aI (kG κ) 800 f1), (a 2, aI (kG κ) 800 f2), (a 3, aI (kG κ) 4800 f3), (a 5, aI (kG κ) 1600 f5), (a 6, aZ (kG κ) 2 f6), (a 17, aI (kG κ) 12 f17), (a 21, aI (kG κ) 12 f21), (a 22, aI (kG κ) 12 f22), (a 23, aI (kG κ) 12 f23), (a 24, aI (kG κ) 12 f24), (a 25, aI (kG κ) 12 f25), (a 26, aI (kG κ) 12 f26), (a 27, aI (kG κ) 12 f27), (a 28, aI (kG κ) 12 f28), (a 29, aZ (kG κ) 4 f29), (a 31, aI (kG κ) 1300 f31), (a 32, aI (kG κ) 1300 f32), (a 33, aI (kG κ) 1300 f33), (a 34, aI (kG κ) 1300 f34), (a 35, aI (kG κ) 13000 f35), (a 36, aI (kG κ) 606 f36), (a 37, aI (kG κ) 12 f37), (a 38, aI (kG κ) 12 f38)] 9 [(0, .ref (a 0))] [.int (-6)]
    refine ww_sel (l := [(a 0, mO a vP), (a 1, aI (kG κ) 800 f1), (a 2, aI (kG κ) 800 f2), (a 3, aI (kG κ) 4800 f3), (a 5, aI (kG κ) 1600 f5), (a 6, aZ (kG κ) 2 f6), (a 7, aI (kG κ) 60 f7), (a 17, aI (kG κ) 12 f17), (a 21, aI (kG κ) 12 f21), (a 22, aI (kG κ) 12 f22), (a 23, aI (kG κ) 12 f23), (a 24, aI (kG κ) 12 f24), (a 25, aI (kG κ) 12 f25), (a 26, aI (kG κ) 12 f26), (a 27, aI (kG κ) 12 f27), (a 28, aI (kG κ) 12 f28), (a 29, aZ (kG κ) 4 f29), (a 31, aI (kG κ) 1300 f31), (a 32, aI (kG κ) 1300 f32), (a 33, aI (kG κ) 1300 f33), (a 34, aI (kG κ) 1300 f34), (a 35, aI (kG κ) 13000 f35), (a 36, aI (kG κ) 606 f36), (a 37, aI (kG κ) 12 f37), (a 38, aI (kG κ) 12 f38), (a 41, aI (kG κ) 64 g41_5)]) (pm_sel [0, 3, 4, 5, 6, 7, 1, 8, 9, 10, 11, 12, 13, 14, 15, 16, 17, 18, 19, 20, 21, 22, 23, 24, 25, 2] 26 (by decide +kernel) rfl rfl) ?_
    have ho9 : o_fault X = ((-6), X) := by unfold o_fault; rw [hrd]
    refine w_iret (ty := .int) C E dX9_fault_9 rfl rfl (Nat.le_refl _) (Nat.le_refl _) ?_
    rw [ho9]
    exact ⟨_, rfl, rfl, _, _, _, _, _, _, _, _, _, _, _, _, _, _, _, _, _, _, _, _, _, _, _, _, _, _, _, rfl, rfl, hO, hS, (gP.1.trans hU), hUn, hSl, (⟨gP.2.1.trans hPd.1, hPd.2⟩), (gP.2.2.trans h18)⟩
set_option maxHeartbeats 4000000 in
set_option maxRecDepth 100000 in
theorem c_X9_carryOut (l : Launch) (G : GG) (h : Nat) (w : va_W) (X : SX) (hRX : RMX G h w X) : MT l G yX9_carryOut cX9_carryOut 2 (some .int) 11 0 0 [.ref h] ((w)) (fun v9 ws9 => ∃ (w2 : va_W), v9 = some (.int ((o_carryOut X).1)) ∧ ws9 = ((w2)) ∧ RMX G h w2 (o_carryOut X).2) := by
  refine RMX_elim hRX (fun a v f1 f2 f3 f5 f6 f7 f17 f21 f22 f23 f24 f25 f26 f27 f28 f29 f31 f32 f33 f34 f35 f36 f37 f38 f41 hw9 hh hO hS hU hUn hSl hPd h18 => ?_)
  subst hw9
  subst hh
  refine MT.of RX9 [(0, .ref (a 0))] (by decide +kernel) rfl rfl (Nat.le_of_ble_eq_true rfl) (fun κ C E hl9 hG9 hnm9 => ?_)
  subst hl9; subst hG9
  have hn12 := hO.1.2.2.2.1.1
  have hj100 := hO.1.2.2.2.2
  have hz6 := hO.2.1.1
  have hp60 := hO.2.2.2.1
  have hd8 := hO.1.1
  have hl1 := hO.1.2.1
  have hzT := hO.1.2.2.1
  refine w_aload_n (nx := 1) C 0 dX9_carryOut_0 rfl rfl rfl ?_
  refine w_iconst (nx := 2) C (nI 0) dX9_carryOut_1 rfl (by decide) ?_
  refine w_putM (nx := 5) (ws2 := [(a 0, mO a (upd v 0 (nI 0))), (a 1, aI (kG κ) 800 f1), (a 2, aI (kG κ) 800 f2), (a 3, aI (kG κ) 4800 f3), (a 5, aI (kG κ) 1600 f5), (a 6, aZ (kG κ) 2 f6), (a 7, aI (kG κ) 60 f7), (a 17, aI (kG κ) 12 f17), (a 21, aI (kG κ) 12 f21), (a 22, aI (kG κ) 12 f22), (a 23, aI (kG κ) 12 f23), (a 24, aI (kG κ) 12 f24), (a 25, aI (kG κ) 12 f25), (a 26, aI (kG κ) 12 f26), (a 27, aI (kG κ) 12 f27), (a 28, aI (kG κ) 12 f28), (a 29, aZ (kG κ) 4 f29), (a 31, aI (kG κ) 1300 f31), (a 32, aI (kG κ) 1300 f32), (a 33, aI (kG κ) 1300 f33), (a 34, aI (kG κ) 1300 f34), (a 35, aI (kG κ) 13000 f35), (a 36, aI (kG κ) 606 f36), (a 37, aI (kG κ) 12 f37), (a 38, aI (kG κ) 12 f38), (a 41, aI (kG κ) 64 f41)]) C 0 0 dX9_carryOut_2 rfl wl_X9_90 rfl (by decide) rfl rfl rfl (ms_0 _ _ _) rfl ?_
  refine w_aload_n (nx := 6) C 0 dX9_carryOut_5 rfl rfl rfl ?_
  refine w_callV (nx := 9) (wr := [(a 1, aI (kG κ) 800 f1), (a 2, aI (kG κ) 800 f2), (a 3, aI (kG κ) 4800 f3), (a 5, aI (kG κ) 1600 f5), (a 6, aZ (kG κ) 2 f6), (a 17, aI (kG κ) 12 f17), (a 21, aI (kG κ) 12 f21), (a 22, aI (kG κ) 12 f22), (a 23, aI (kG κ) 12 f23), (a 24, aI (kG κ) 12 f24), (a 25, aI (kG κ) 12 f25), (a 26, aI (kG κ) 12 f26), (a 27, aI (kG κ) 12 f27), (a 28, aI (kG κ) 12 f28), (a 29, aZ (kG κ) 4 f29), (a 31, aI (kG κ) 1300 f31), (a 32, aI (kG κ) 1300 f32), (a 33, aI (kG κ) 1300 f33), (a 34, aI (kG κ) 1300 f34), (a 35, aI (kG κ) 13000 f35), (a 36, aI (kG κ) 606 f36), (a 37, aI (kG κ) 12 f37), (a 38, aI (kG κ) 12 f38)]) (rest := []) C mi_X9_reads (c_X9_reads _ _ a (upd v 0 (nI 0)) f7 f41 (xP X) (hPd.1) (hPd.2) (hO.2.2.2)) 0 dX9_carryOut_6 rfl wl_X9_258 rfl rfl rfl (pm_sel [0, 6, 25, 1, 2, 3, 4, 5, 7, 8, 9, 10, 11, 12, 13, 14, 15, 16, 17, 18, 19, 20, 21, 22, 23, 24] 26 (by decide +kernel) rfl rfl) rfl rfl (Nat.le_of_ble_eq_true rfl) (Nat.le_of_ble_eq_true rfl) (Nat.le_of_ble_eq_true rfl) (Nat.zero_le _) (Nat.zero_le _) (fun v9 w9 R_1 => ?_)
  rcases R_1 with ⟨a2_2, vP, gP41, rfl, rfl, hrd, gP⟩ | ⟨lq, vP, gP41, rfl, rfl, hrd, gP, hQ9, hl9, hP42⟩
  · show WW κ 0 0 [(a 0, mO a vP), (a 7, aI (kG κ) 60 f7), (a 41, aI (kG κ) 64 gP41), (a 1, aI (kG κ) 800 f1), (a 2, aI (kG κ) 800 f2), (a 3, aI (kG κ) 4800 f3), (a 5, aI (kG κ) 1600 f5), (a 6, aZ (kG κ) 2 f6), (a 17, aI (kG κ) 12 f17), (a 21, aI (kG κ) 12 f21), (a 22, aI (kG κ) 12 f22), (a 23, aI (kG κ) 12 f23), (a 24, aI (kG κ) 12 f24), (a 25, aI (kG κ) 12 f25), (a 26, aI (kG κ) 12 f26), (a 27, aI (kG κ) 12 f27), (a 28, aI (kG κ) 12 f28), (a 29, aZ (kG κ) 4 f29), (a 31, aI (kG κ) 1300 f31), (a 32, aI (kG κ) 1300 f32), (a 33, aI (kG κ) 1300 f33), (a 34, aI (kG κ) 1300 f34), (a 35, aI (kG κ) 13000 f35), (a 36, aI (kG κ) 606 f36), (a 37, aI (kG κ) 12 f37), (a 38, aI (kG κ) 12 f38)] 9 [(0, .ref (a 0))] [.int (nI a2_2)]
    have ha9 := rd_le hO.2.2.2.1 hrd
    refine w_bipush (nx := 11) C (-6) dX9_carryOut_9 rfl (by decide) ?_
    refine w_icmp_eq (tg := 17) (nx := 14) C dX9_carryOut_11 rfl rfl (fun q9 => absurd q9 (nI_nneg (by omega) (by decide))) (fun _ => ?_)
    refine w_bipush (nx := 16) C (-3) dX9_carryOut_14 rfl (by decide) ?_
    refine ww_sel (l := [(a 0, mO a vP), (a 1, aI (kG κ) 800 f1), (a 2, aI (kG κ) 800 f2), (a 3, aI (kG κ) 4800 f3), (a 5, aI (kG κ) 1600 f5), (a 6, aZ (kG κ) 2 f6), (a 7, aI (kG κ) 60 f7), (a 17, aI (kG κ) 12 f17), (a 21, aI (kG κ) 12 f21), (a 22, aI (kG κ) 12 f22), (a 23, aI (kG κ) 12 f23), (a 24, aI (kG κ) 12 f24), (a 25, aI (kG κ) 12 f25), (a 26, aI (kG κ) 12 f26), (a 27, aI (kG κ) 12 f27), (a 28, aI (kG κ) 12 f28), (a 29, aZ (kG κ) 4 f29), (a 31, aI (kG κ) 1300 f31), (a 32, aI (kG κ) 1300 f32), (a 33, aI (kG κ) 1300 f33), (a 34, aI (kG κ) 1300 f34), (a 35, aI (kG κ) 13000 f35), (a 36, aI (kG κ) 606 f36), (a 37, aI (kG κ) 12 f37), (a 38, aI (kG κ) 12 f38), (a 41, aI (kG κ) 64 gP41)]) (pm_sel [0, 3, 4, 5, 6, 7, 1, 8, 9, 10, 11, 12, 13, 14, 15, 16, 17, 18, 19, 20, 21, 22, 23, 24, 25, 2] 26 (by decide +kernel) rfl rfl) ?_
    have ho9 : o_carryOut X = ((-3), X) := by unfold o_carryOut; rw [hrd]; rfl
    refine w_iret (ty := .int) C E dX9_carryOut_16 rfl rfl (Nat.le_refl _) (Nat.le_refl _) ?_
    rw [ho9]
    exact ⟨_, rfl, rfl, _, _, _, _, _, _, _, _, _, _, _, _, _, _, _, _, _, _, _, _, _, _, _, _, _, _, _, rfl, rfl, hO, hS, (gP.1.trans hU), hUn, hSl, (⟨gP.2.1.trans hPd.1, hPd.2⟩), (gP.2.2.trans h18)⟩
  · show WW κ 0 0 [(a 0, mO a vP), (a 7, aI (kG κ) 60 f7), (a 41, aI (kG κ) 64 gP41), (a 1, aI (kG κ) 800 f1), (a 2, aI (kG κ) 800 f2), (a 3, aI (kG κ) 4800 f3), (a 5, aI (kG κ) 1600 f5), (a 6, aZ (kG κ) 2 f6), (a 17, aI (kG κ) 12 f17), (a 21, aI (kG κ) 12 f21), (a 22, aI (kG κ) 12 f22), (a 23, aI (kG κ) 12 f23), (a 24, aI (kG κ) 12 f24), (a 25, aI (kG κ) 12 f25), (a 26, aI (kG κ) 12 f26), (a 27, aI (kG κ) 12 f27), (a 28, aI (kG κ) 12 f28), (a 29, aZ (kG κ) 4 f29), (a 31, aI (kG κ) 1300 f31), (a 32, aI (kG κ) 1300 f32), (a 33, aI (kG κ) 1300 f33), (a 34, aI (kG κ) 1300 f34), (a 35, aI (kG κ) 13000 f35), (a 36, aI (kG κ) 606 f36), (a 37, aI (kG κ) 12 f37), (a 38, aI (kG κ) 12 f38)] 9 [(0, .ref (a 0))] [.int (-6)]
    refine w_bipush (nx := 11) C (-6) dX9_carryOut_9 rfl (by decide) ?_
    refine w_icmp_eq (tg := 17) (nx := 14) C dX9_carryOut_11 rfl rfl (fun _ => ?_) (fun q9 => absurd (by decide) q9)
    refine w_aload_n (nx := 18) C 0 dX9_carryOut_17 rfl rfl rfl ?_
    refine w_callV (nx := 21) (wr := [(a 7, aI (kG κ) 60 f7), (a 41, aI (kG κ) 64 gP41), (a 2, aI (kG κ) 800 f2), (a 5, aI (kG κ) 1600 f5), (a 6, aZ (kG κ) 2 f6), (a 17, aI (kG κ) 12 f17), (a 21, aI (kG κ) 12 f21), (a 22, aI (kG κ) 12 f22), (a 23, aI (kG κ) 12 f23), (a 24, aI (kG κ) 12 f24), (a 25, aI (kG κ) 12 f25), (a 26, aI (kG κ) 12 f26), (a 27, aI (kG κ) 12 f27), (a 28, aI (kG κ) 12 f28), (a 29, aZ (kG κ) 4 f29), (a 31, aI (kG κ) 1300 f31), (a 32, aI (kG κ) 1300 f32), (a 33, aI (kG κ) 1300 f33), (a 34, aI (kG κ) 1300 f34), (a 35, aI (kG κ) 13000 f35), (a 36, aI (kG κ) 606 f36), (a 37, aI (kG κ) 12 f37), (a 38, aI (kG κ) 12 f38)]) (rest := []) C mi_X9_records (c_X9_records _ _ a vP f1 f3 (xH X) (xS X) (gP.1.trans hU) (hz6) (hO.2.1) (hUn) (hS) (hO.1)) 0 dX9_carryOut_18 rfl wl_X9_205 rfl rfl rfl (pm_sel [0, 3, 5, 1, 2, 4, 6, 7, 8, 9, 10, 11, 12, 13, 14, 15, 16, 17, 18, 19, 20, 21, 22, 23, 24, 25] 26 (by decide +kernel) rfl rfl) rfl rfl (Nat.le_of_ble_eq_true rfl) (Nat.le_of_ble_eq_true rfl) (Nat.le_of_ble_eq_true rfl) (Nat.zero_le _) (Nat.zero_le _) (fun v9 w9 R_5 => ?_)
    obtain ⟨vR, gR3, rfl, rfl, hRU, hRq, hRn⟩ := R_5
    show WW κ 0 0 [(a 0, mO a vR), (a 1, aI (kG κ) 800 f1), (a 3, aI (kG κ) 4800 gR3), (a 7, aI (kG κ) 60 f7), (a 41, aI (kG κ) 64 gP41), (a 2, aI (kG κ) 800 f2), (a 5, aI (kG κ) 1600 f5), (a 6, aZ (kG κ) 2 f6), (a 17, aI (kG κ) 12 f17), (a 21, aI (kG κ) 12 f21), (a 22, aI (kG κ) 12 f22), (a 23, aI (kG κ) 12 f23), (a 24, aI (kG κ) 12 f24), (a 25, aI (kG κ) 12 f25), (a 26, aI (kG κ) 12 f26), (a 27, aI (kG κ) 12 f27), (a 28, aI (kG κ) 12 f28), (a 29, aZ (kG κ) 4 f29), (a 31, aI (kG κ) 1300 f31), (a 32, aI (kG κ) 1300 f32), (a 33, aI (kG κ) 1300 f33), (a 34, aI (kG κ) 1300 f34), (a 35, aI (kG κ) 13000 f35), (a 36, aI (kG κ) 606 f36), (a 37, aI (kG κ) 12 f37), (a 38, aI (kG κ) 12 f38)] 21 [(0, .ref (a 0))] []
    refine w_iconst (nx := 22) C (nI 0) dX9_carryOut_21 rfl (by decide) ?_
    refine w_istore_n (nx := 23) (lo2 := [(1, .int (nI 0)), (0, .ref (a 0))]) C dX9_carryOut_22 rfl rfl (by decide) rfl ?_
    have LP_6 : ∀ (N9_23 : Nat) (i : Nat) (σ1 : SG) (vv : Nat → Int32) (k1 : Nat → Int32) (k17 : Nat → Int32) (k21 : Nat → Int32) (k22 : Nat → Int32) (k23 : Nat → Int32) (k24 : Nat → Int32) (k25 : Nat → Int32) (k26 : Nat → Int32) (k27 : Nat → Int32) (k28 : Nat → Int32) (k29 : Nat → Int32) (k31 : Nat → Int32) (k32 : Nat → Int32) (k33 : Nat → Int32) (k34 : Nat → Int32) (k35 : Nat → Int32) (k36 : Nat → Int32) (k2 : Nat → Int32), (i ≤ lq.1) → (wfS σ1) → (cryS lq.2 lq.1 0 (xS X) = cryS lq.2 (lq.1 - i) i σ1) → (rMS k1 σ1) → (vv 4 = nI (kpH (xH X) (xS X)).1) → (vv 18 = -6) → (vv 42 = nI lq.1) → (lq.1 - i) < N9_23 → WW κ 0 0 [(a 0, mO a vv), (a 1, aI (kG κ) 800 k1), (a 2, aI (kG κ) 800 k2), (a 3, aI (kG κ) 4800 gR3), (a 5, aI (kG κ) 1600 f5), (a 6, aZ (kG κ) 2 f6), (a 7, aI (kG κ) 60 f7), (a 17, aI (kG κ) 12 k17), (a 21, aI (kG κ) 12 k21), (a 22, aI (kG κ) 12 k22), (a 23, aI (kG κ) 12 k23), (a 24, aI (kG κ) 12 k24), (a 25, aI (kG κ) 12 k25), (a 26, aI (kG κ) 12 k26), (a 27, aI (kG κ) 12 k27), (a 28, aI (kG κ) 12 k28), (a 29, aZ (kG κ) 4 k29), (a 31, aI (kG κ) 1300 k31), (a 32, aI (kG κ) 1300 k32), (a 33, aI (kG κ) 1300 k33), (a 34, aI (kG κ) 1300 k34), (a 35, aI (kG κ) 13000 k35), (a 36, aI (kG κ) 606 k36), (a 37, aI (kG κ) 12 f37), (a 38, aI (kG κ) 12 f38), (a 41, aI (kG κ) 64 gP41)] 23 [(0, .ref (a 0)), (1, .int (nI i))] [] := by
      intro N9_23
      induction N9_23 with
      | zero => intro i σ1 vv k1 k17 k21 k22 k23 k24 k25 k26 k27 k28 k29 k31 k32 k33 k34 k35 k36 k2 hi8 hs1 hc1 hS1 hU1 h181 h421 hm9_23; exact absurd hm9_23 (Nat.not_lt_zero _)
      | succ N9_23 ih9_23 =>
        intro i σ1 vv k1 k17 k21 k22 k23 k24 k25 k26 k27 k28 k29 k31 k32 k33 k34 k35 k36 k2 hi8 hs1 hc1 hS1 hU1 h181 h421 hm9_23
        refine w_iload_n (nx := 24) C 1 dX9_carryOut_23 rfl rfl rfl ?_
        refine w_aload_n (nx := 25) C 0 dX9_carryOut_24 rfl rfl rfl ?_
        refine w_getM (nx := 28) C (.int (vv 42)) 0 42 dX9_carryOut_25 rfl wl_X9_252 rfl (by decide) rfl (mg_42 _ _) ?_
        refine w_top (nI lq.1) h421 ?_
        refine n_icmp_ge (tg := 82) (nx := 31) C dX9_carryOut_28 rfl rfl (by omega) (by omega) (fun h_7 => ?_) (fun h_7 => ?_)
        · have hcry : cryS lq.2 lq.1 0 (xS X) = (i, σ1) := by rw [hc1, show lq.1 - i = 0 by omega]; rfl
          refine w_aload_n (nx := 83) C 0 dX9_carryOut_82 rfl rfl rfl ?_
          refine w_iconst (nx := 84) C (nI 0) dX9_carryOut_83 rfl (by decide) ?_
          refine w_putM (nx := 87) (ws2 := [(a 0, mO a (upd vv 8 (nI 0))), (a 1, aI (kG κ) 800 k1), (a 2, aI (kG κ) 800 k2), (a 3, aI (kG κ) 4800 gR3), (a 5, aI (kG κ) 1600 f5), (a 6, aZ (kG κ) 2 f6), (a 7, aI (kG κ) 60 f7), (a 17, aI (kG κ) 12 k17), (a 21, aI (kG κ) 12 k21), (a 22, aI (kG κ) 12 k22), (a 23, aI (kG κ) 12 k23), (a 24, aI (kG κ) 12 k24), (a 25, aI (kG κ) 12 k25), (a 26, aI (kG κ) 12 k26), (a 27, aI (kG κ) 12 k27), (a 28, aI (kG κ) 12 k28), (a 29, aZ (kG κ) 4 k29), (a 31, aI (kG κ) 1300 k31), (a 32, aI (kG κ) 1300 k32), (a 33, aI (kG κ) 1300 k33), (a 34, aI (kG κ) 1300 k34), (a 35, aI (kG κ) 13000 k35), (a 36, aI (kG κ) 606 k36), (a 37, aI (kG κ) 12 f37), (a 38, aI (kG κ) 12 f38), (a 41, aI (kG κ) 64 gP41)]) C 0 8 dX9_carryOut_84 rfl wl_X9_231 rfl (by decide) rfl rfl rfl (ms_8 _ _ _) rfl ?_
          refine w_iload_n (nx := 88) C 1 dX9_carryOut_87 rfl rfl rfl ?_
          have ho9 : o_carryOut X = ((nI i), (σ1, kpH (xH X) (xS X), xL X, (0, (xP X).2))) := by unfold o_carryOut; rw [hrd]; show (nI (cryS lq.2 lq.1 0 (xS X)).1, ((cryS lq.2 lq.1 0 (xS X)).2, kpH (xH X) (xS X), xL X, (0, (xP X).2))) = _; rw [hcry]
          have hw9 : wfO (σ1, kpH (xH X) (xS X), xL X, (0, (xP X).2)) := ⟨hs1, wfH_kp hO.2.1 hO.1, hO.2.2.1, Nat.zero_le _, fun i hi => absurd hi (Nat.not_lt_zero _)⟩
          refine w_iret (ty := .int) C E dX9_carryOut_88 rfl rfl (Nat.le_refl _) (Nat.le_refl _) ?_
          rw [ho9]
          exact ⟨_, rfl, rfl, _, _, _, _, _, _, _, _, _, _, _, _, _, _, _, _, _, _, _, _, _, _, _, _, _, _, _, rfl, rfl, hw9, hS1, hU1, hRn, hSl, (⟨rfl, fun i hi => absurd hi (Nat.not_lt_zero _)⟩), h181⟩
        · have hi9 : i < lq.1 := by omega
          have hq9 := hQ9 i hi9
          refine w_aload_n (nx := 32) C 0 dX9_carryOut_31 rfl rfl rfl ?_
          refine w_aload_n (nx := 33) C 0 dX9_carryOut_32 rfl rfl rfl ?_
          refine w_getM (nx := 36) C (.ref (a 41)) 0 41 dX9_carryOut_33 rfl wl_X9_87 rfl (by decide) rfl (mg_41 _ _) ?_
          refine w_iconst (nx := 37) C (nI 4) dX9_carryOut_36 rfl (by decide) ?_
          refine w_iload_n (nx := 38) C 1 dX9_carryOut_37 rfl rfl rfl ?_
          refine w_imul (nx := 39) C (nI (4 * i)) dX9_carryOut_38 rfl (pk_mul _ _) ?_
          refine w_iald (nx := 40) C (nI ((lq.2 i).1)) 25 (4 * i) dX9_carryOut_39 rfl rfl (by decide) rfl (by omega) ((congrArg gP41 (by omega)).trans hq9.1.1) ?_
          refine w_aload_n (nx := 41) C 0 dX9_carryOut_40 rfl rfl rfl ?_
          refine w_getM (nx := 44) C (.ref (a 41)) 0 41 dX9_carryOut_41 rfl wl_X9_87 rfl (by decide) rfl (mg_41 _ _) ?_
          refine w_iconst (nx := 45) C (nI 4) dX9_carryOut_44 rfl (by decide) ?_
          refine w_iload_n (nx := 46) C 1 dX9_carryOut_45 rfl rfl rfl ?_
          refine w_imul (nx := 47) C (nI (4 * i)) dX9_carryOut_46 rfl (pk_mul _ _) ?_
          refine w_iconst (nx := 48) C (nI 1) dX9_carryOut_47 rfl (by decide) ?_
          refine w_iadd (nx := 49) C (nI (4 * i + 1)) dX9_carryOut_48 rfl (nI_add _ _) ?_
          refine w_iald (nx := 50) C (nI ((lq.2 i).2.1)) 25 (4 * i + 1) dX9_carryOut_49 rfl rfl (by decide) rfl (by omega) ((congrArg gP41 (by omega)).trans hq9.1.2.1) ?_
          refine w_aload_n (nx := 51) C 0 dX9_carryOut_50 rfl rfl rfl ?_
          refine w_getM (nx := 54) C (.ref (a 41)) 0 41 dX9_carryOut_51 rfl wl_X9_87 rfl (by decide) rfl (mg_41 _ _) ?_
          refine w_iconst (nx := 55) C (nI 4) dX9_carryOut_54 rfl (by decide) ?_
          refine w_iload_n (nx := 56) C 1 dX9_carryOut_55 rfl rfl rfl ?_
          refine w_imul (nx := 57) C (nI (4 * i)) dX9_carryOut_56 rfl (pk_mul _ _) ?_
          refine w_iconst (nx := 58) C (nI 2) dX9_carryOut_57 rfl (by decide) ?_
          refine w_iadd (nx := 59) C (nI (4 * i + 2)) dX9_carryOut_58 rfl (nI_add _ _) ?_
          refine w_iald (nx := 60) C (nI ((lq.2 i).2.2.1)) 25 (4 * i + 2) dX9_carryOut_59 rfl rfl (by decide) rfl (by omega) ((congrArg gP41 (by omega)).trans hq9.1.2.2.1) ?_
          refine w_aload_n (nx := 61) C 0 dX9_carryOut_60 rfl rfl rfl ?_
          refine w_getM (nx := 64) C (.ref (a 41)) 0 41 dX9_carryOut_61 rfl wl_X9_87 rfl (by decide) rfl (mg_41 _ _) ?_
          refine w_iconst (nx := 65) C (nI 4) dX9_carryOut_64 rfl (by decide) ?_
          refine w_iload_n (nx := 66) C 1 dX9_carryOut_65 rfl rfl rfl ?_
          refine w_imul (nx := 67) C (nI (4 * i)) dX9_carryOut_66 rfl (pk_mul _ _) ?_
          refine w_iconst (nx := 68) C (nI 3) dX9_carryOut_67 rfl (by decide) ?_
          refine w_iadd (nx := 69) C (nI (4 * i + 3)) dX9_carryOut_68 rfl (nI_add _ _) ?_
          refine w_iald (nx := 70) C (nI ((lq.2 i).2.2.2)) 25 (4 * i + 3) dX9_carryOut_69 rfl rfl (by decide) rfl (by omega) ((congrArg gP41 (by omega)).trans hq9.1.2.2.2) ?_
          refine w_callV (nx := 73) (wr := [(a 3, aI (kG κ) 4800 gR3), (a 5, aI (kG κ) 1600 f5), (a 6, aZ (kG κ) 2 f6), (a 7, aI (kG κ) 60 f7), (a 37, aI (kG κ) 12 f37), (a 38, aI (kG κ) 12 f38), (a 41, aI (kG κ) 64 gP41)]) (rest := []) C mi_X9_states (c_X9_states _ _ a vv k1 k17 k21 k22 k23 k24 k25 k26 k27 k28 k29 k31 k32 k33 k34 k35 k36 k2 σ1 99 (-6) ((lq.2 i).1) ((lq.2 i).2.1) ((lq.2 i).2.2.1) ((lq.2 i).2.2.2) (hs1) (hS1) (wo_6) (h181) (by first | assumption | omega) (by first | assumption | omega) (by first | assumption | omega) (by first | assumption | omega)) 0 dX9_carryOut_70 rfl wl_X9_218 rfl rfl rfl (pm_sel [0, 1, 7, 8, 9, 10, 11, 12, 13, 14, 15, 16, 17, 18, 19, 20, 21, 22, 2, 3, 4, 5, 6, 23, 24, 25] 26 (by decide +kernel) rfl rfl) rfl rfl (Nat.le_of_ble_eq_true rfl) (Nat.le_of_ble_eq_true rfl) (Nat.le_of_ble_eq_true rfl) (Nat.zero_le _) (Nat.zero_le _) (fun v9 w9 R_8 => ?_)
          rcases R_8 with ⟨rA, vA, gA1, gA17, gA21, gA22, gA23, gA24, gA25, gA26, gA27, gA28, gA29, gA31, gA32, gA33, gA34, gA35, gA36, gA2, rfl, rfl, heA, hsA, hnA, hSA⟩ | ⟨rA, vA, gA1, gA17, gA21, gA22, gA23, gA24, gA25, gA26, gA27, gA28, gA29, gA31, gA32, gA33, gA34, gA35, gA36, gA2, rfl, rfl, heA, hsA, hnA, hSA, hXA, h13A⟩
          · show WW κ 0 0 [(a 0, mO a vA), (a 1, aI (kG κ) 800 gA1), (a 17, aI (kG κ) 12 gA17), (a 21, aI (kG κ) 12 gA21), (a 22, aI (kG κ) 12 gA22), (a 23, aI (kG κ) 12 gA23), (a 24, aI (kG κ) 12 gA24), (a 25, aI (kG κ) 12 gA25), (a 26, aI (kG κ) 12 gA26), (a 27, aI (kG κ) 12 gA27), (a 28, aI (kG κ) 12 gA28), (a 29, aZ (kG κ) 4 gA29), (a 31, aI (kG κ) 1300 gA31), (a 32, aI (kG κ) 1300 gA32), (a 33, aI (kG κ) 1300 gA33), (a 34, aI (kG κ) 1300 gA34), (a 35, aI (kG κ) 13000 gA35), (a 36, aI (kG κ) 606 gA36), (a 2, aI (kG κ) 800 gA2), (a 3, aI (kG κ) 4800 gR3), (a 5, aI (kG κ) 1600 f5), (a 6, aZ (kG κ) 2 f6), (a 7, aI (kG κ) 60 f7), (a 37, aI (kG κ) 12 f37), (a 38, aI (kG κ) 12 f38), (a 41, aI (kG κ) 64 gP41)] 73 [(0, .ref (a 0)), (1, .int (nI i))] [.int (nI 0)]
            have her : rnS σ1 (sD σ1) 99 (lq.2 i).1 (lq.2 i).2.1 (lq.2 i).2.2.1 (lq.2 i).2.2.2 = rA := heA.symm
            have hcry : cryS lq.2 lq.1 0 (xS X) = (i, σ1) := hc1.trans (cry_off (fun z => hnA (her ▸ z)))
            refine w_if_eq (tg := 82) (nx := 76) C dX9_carryOut_73 rfl rfl (fun _ => ?_) (fun q9 => absurd (by decide) q9)
            refine w_aload_n (nx := 83) C 0 dX9_carryOut_82 rfl rfl rfl ?_
            refine w_iconst (nx := 84) C (nI 0) dX9_carryOut_83 rfl (by decide) ?_
            refine w_putM (nx := 87) (ws2 := [(a 0, mO a (upd vA 8 (nI 0))), (a 1, aI (kG κ) 800 gA1), (a 17, aI (kG κ) 12 gA17), (a 21, aI (kG κ) 12 gA21), (a 22, aI (kG κ) 12 gA22), (a 23, aI (kG κ) 12 gA23), (a 24, aI (kG κ) 12 gA24), (a 25, aI (kG κ) 12 gA25), (a 26, aI (kG κ) 12 gA26), (a 27, aI (kG κ) 12 gA27), (a 28, aI (kG κ) 12 gA28), (a 29, aZ (kG κ) 4 gA29), (a 31, aI (kG κ) 1300 gA31), (a 32, aI (kG κ) 1300 gA32), (a 33, aI (kG κ) 1300 gA33), (a 34, aI (kG κ) 1300 gA34), (a 35, aI (kG κ) 13000 gA35), (a 36, aI (kG κ) 606 gA36), (a 2, aI (kG κ) 800 gA2), (a 3, aI (kG κ) 4800 gR3), (a 5, aI (kG κ) 1600 f5), (a 6, aZ (kG κ) 2 f6), (a 7, aI (kG κ) 60 f7), (a 37, aI (kG κ) 12 f37), (a 38, aI (kG κ) 12 f38), (a 41, aI (kG κ) 64 gP41)]) C 0 8 dX9_carryOut_84 rfl wl_X9_231 rfl (by decide) rfl rfl rfl (ms_8 _ _ _) rfl ?_
            refine w_iload_n (nx := 88) C 1 dX9_carryOut_87 rfl rfl rfl ?_
            refine ww_sel (l := [(a 0, mO a (upd vA 8 (nI 0))), (a 1, aI (kG κ) 800 gA1), (a 2, aI (kG κ) 800 gA2), (a 3, aI (kG κ) 4800 gR3), (a 5, aI (kG κ) 1600 f5), (a 6, aZ (kG κ) 2 f6), (a 7, aI (kG κ) 60 f7), (a 17, aI (kG κ) 12 gA17), (a 21, aI (kG κ) 12 gA21), (a 22, aI (kG κ) 12 gA22), (a 23, aI (kG κ) 12 gA23), (a 24, aI (kG κ) 12 gA24), (a 25, aI (kG κ) 12 gA25), (a 26, aI (kG κ) 12 gA26), (a 27, aI (kG κ) 12 gA27), (a 28, aI (kG κ) 12 gA28), (a 29, aZ (kG κ) 4 gA29), (a 31, aI (kG κ) 1300 gA31), (a 32, aI (kG κ) 1300 gA32), (a 33, aI (kG κ) 1300 gA33), (a 34, aI (kG κ) 1300 gA34), (a 35, aI (kG κ) 13000 gA35), (a 36, aI (kG κ) 606 gA36), (a 37, aI (kG κ) 12 f37), (a 38, aI (kG κ) 12 f38), (a 41, aI (kG κ) 64 gP41)]) (pm_sel [0, 1, 18, 19, 20, 21, 22, 2, 3, 4, 5, 6, 7, 8, 9, 10, 11, 12, 13, 14, 15, 16, 17, 23, 24, 25] 26 (by decide +kernel) rfl rfl) ?_
            have ho9 : o_carryOut X = ((nI i), (σ1, kpH (xH X) (xS X), xL X, (0, (xP X).2))) := by unfold o_carryOut; rw [hrd]; show (nI (cryS lq.2 lq.1 0 (xS X)).1, ((cryS lq.2 lq.1 0 (xS X)).2, kpH (xH X) (xS X), xL X, (0, (xP X).2))) = _; rw [hcry]
            have hw9 : wfO (σ1, kpH (xH X) (xS X), xL X, (0, (xP X).2)) := ⟨hs1, wfH_kp hO.2.1 hO.1, hO.2.2.1, Nat.zero_le _, fun i hi => absurd hi (Nat.not_lt_zero _)⟩
            refine w_iret (ty := .int) C E dX9_carryOut_88 rfl rfl (Nat.le_refl _) (Nat.le_refl _) ?_
            rw [ho9]
            exact ⟨_, rfl, rfl, _, _, _, _, _, _, _, _, _, _, _, _, _, _, _, _, _, _, _, _, _, _, _, _, _, _, _, rfl, rfl, hw9, hSA, (hsA.2.1.trans hU1), hRn, hSl, (⟨rfl, fun i hi => absurd hi (Nat.not_lt_zero _)⟩), (hsA.2.2.2.1.trans h181)⟩
          · show WW κ 0 0 [(a 0, mO a vA), (a 1, aI (kG κ) 800 gA1), (a 17, aI (kG κ) 12 gA17), (a 21, aI (kG κ) 12 gA21), (a 22, aI (kG κ) 12 gA22), (a 23, aI (kG κ) 12 gA23), (a 24, aI (kG κ) 12 gA24), (a 25, aI (kG κ) 12 gA25), (a 26, aI (kG κ) 12 gA26), (a 27, aI (kG κ) 12 gA27), (a 28, aI (kG κ) 12 gA28), (a 29, aZ (kG κ) 4 gA29), (a 31, aI (kG κ) 1300 gA31), (a 32, aI (kG κ) 1300 gA32), (a 33, aI (kG κ) 1300 gA33), (a 34, aI (kG κ) 1300 gA34), (a 35, aI (kG κ) 13000 gA35), (a 36, aI (kG κ) 606 gA36), (a 2, aI (kG κ) 800 gA2), (a 3, aI (kG κ) 4800 gR3), (a 5, aI (kG κ) 1600 f5), (a 6, aZ (kG κ) 2 f6), (a 7, aI (kG κ) 60 f7), (a 37, aI (kG κ) 12 f37), (a 38, aI (kG κ) 12 f38), (a 41, aI (kG κ) 64 gP41)] 73 [(0, .ref (a 0)), (1, .int (nI i))] [.int (nI 1)]
            have her : rnS σ1 (sD σ1) 99 (lq.2 i).1 (lq.2 i).2.1 (lq.2 i).2.2.1 (lq.2 i).2.2.2 = rA := heA.symm
            refine w_if_eq (tg := 82) (nx := 76) C dX9_carryOut_73 rfl rfl (fun q9 => absurd q9 (by decide)) (fun _ => ?_)
            refine w_iinc (nx := 79) (lo2 := [(1, .int (nI (i + 1))), (0, .ref (a 0))]) C (nI (i + 1)) 1 dX9_carryOut_76 rfl rfl (nI_add _ _) (by decide) rfl ?_
            refine w_goto (nx := 23) C dX9_carryOut_79 rfl ?_
            refine ww_sel (l := [(a 0, mO a vA), (a 1, aI (kG κ) 800 gA1), (a 2, aI (kG κ) 800 gA2), (a 3, aI (kG κ) 4800 gR3), (a 5, aI (kG κ) 1600 f5), (a 6, aZ (kG κ) 2 f6), (a 7, aI (kG κ) 60 f7), (a 17, aI (kG κ) 12 gA17), (a 21, aI (kG κ) 12 gA21), (a 22, aI (kG κ) 12 gA22), (a 23, aI (kG κ) 12 gA23), (a 24, aI (kG κ) 12 gA24), (a 25, aI (kG κ) 12 gA25), (a 26, aI (kG κ) 12 gA26), (a 27, aI (kG κ) 12 gA27), (a 28, aI (kG κ) 12 gA28), (a 29, aZ (kG κ) 4 gA29), (a 31, aI (kG κ) 1300 gA31), (a 32, aI (kG κ) 1300 gA32), (a 33, aI (kG κ) 1300 gA33), (a 34, aI (kG κ) 1300 gA34), (a 35, aI (kG κ) 13000 gA35), (a 36, aI (kG κ) 606 gA36), (a 37, aI (kG κ) 12 f37), (a 38, aI (kG κ) 12 f38), (a 41, aI (kG κ) 64 gP41)]) (pm_sel [0, 1, 18, 19, 20, 21, 22, 2, 3, 4, 5, 6, 7, 8, 9, 10, 11, 12, 13, 14, 15, 16, 17, 23, 24, 25] 26 (by decide +kernel) rfl rfl) ?_
            refine ww_lo [1, 0] (lo' := [(0, .ref (a 0)), (1, .int (nI (i + 1)))]) rfl ?_
            exact ih9_23 (i + 1) (tkS σ1 rA) vA gA1 gA17 gA21 gA22 gA23 gA24 gA25 gA26 gA27 gA28 gA29 gA31 gA32 gA33 gA34 gA35 gA36 gA2 (by omega) (wfS_tk hs1 hXA) (hc1.trans (by rw [show lq.1 - i = lq.1 - (i + 1) + 1 by omega, cry_on (her ▸ hnA), her])) (hSA) (hsA.2.1.trans hU1) (hsA.2.2.2.1.trans h181) (hsA.2.2.2.2.2.2.trans h421) (by omega)
    refine ww_sel (l := [(a 0, mO a vR), (a 1, aI (kG κ) 800 f1), (a 2, aI (kG κ) 800 f2), (a 3, aI (kG κ) 4800 gR3), (a 5, aI (kG κ) 1600 f5), (a 6, aZ (kG κ) 2 f6), (a 7, aI (kG κ) 60 f7), (a 17, aI (kG κ) 12 f17), (a 21, aI (kG κ) 12 f21), (a 22, aI (kG κ) 12 f22), (a 23, aI (kG κ) 12 f23), (a 24, aI (kG κ) 12 f24), (a 25, aI (kG κ) 12 f25), (a 26, aI (kG κ) 12 f26), (a 27, aI (kG κ) 12 f27), (a 28, aI (kG κ) 12 f28), (a 29, aZ (kG κ) 4 f29), (a 31, aI (kG κ) 1300 f31), (a 32, aI (kG κ) 1300 f32), (a 33, aI (kG κ) 1300 f33), (a 34, aI (kG κ) 1300 f34), (a 35, aI (kG κ) 13000 f35), (a 36, aI (kG κ) 606 f36), (a 37, aI (kG κ) 12 f37), (a 38, aI (kG κ) 12 f38), (a 41, aI (kG κ) 64 gP41)]) (pm_sel [0, 1, 5, 2, 6, 7, 3, 8, 9, 10, 11, 12, 13, 14, 15, 16, 17, 18, 19, 20, 21, 22, 23, 24, 25, 4] 26 (by decide +kernel) rfl rfl) ?_
    refine ww_lo [1, 0] (lo' := [(0, .ref (a 0)), (1, .int (nI 0))]) rfl ?_
    exact LP_6 _ 0 (xS X) vR f1 f17 f21 f22 f23 f24 f25 f26 f27 f28 f29 f31 f32 f33 f34 f35 f36 f2 (Nat.zero_le _) (hO.1) (rfl) (hS) (hRU) ((hRq 18 (by decide)).trans (gP.2.2.trans h18)) ((hRq 42 (by decide)).trans hP42) (Nat.lt_succ_self _)
