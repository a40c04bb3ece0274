/-! THE REFERENCE'S STATES: its undos, its slots; the whole object -/
def rUn (f : Nat → Int32) (h : HS) : Prop := ∀ i, i < h.1 → rMS (fun k => f (800 * i + k)) (h.2 i)
def rSM (f5 f6 : Nat → Int32) (s : SL) : Prop := ∀ i, i < 2 → f6 i = bC (∃ σ, s i = some σ) ∧ ∀ σ, s i = some σ → rMS (fun k => f5 (800 * i + k)) σ
def RMX (G : GG) (h : Nat) (w : va_W) (X : SX) : Prop := ∃ (a : Nat → Nat) (v : Nat → Int32) (f1 : Nat → Int32) (f2 : Nat → Int32) (f3 : Nat → Int32) (f5 : Nat → Int32) (f6 : Nat → Int32) (f7 : Nat → Int32) (f17 : Nat → Int32) (f21 : Nat → Int32) (f22 : Nat → Int32) (f23 : Nat → Int32) (f24 : Nat → Int32) (f25 : Nat → Int32) (f26 : Nat → Int32) (f27 : Nat → Int32) (f28 : Nat → Int32) (f29 : Nat → Int32) (f31 : Nat → Int32) (f32 : Nat → Int32) (f33 : Nat → Int32) (f34 : Nat → Int32) (f35 : Nat → Int32) (f36 : Nat → Int32) (f37 : Nat → Int32) (f38 : Nat → Int32) (f41 : Nat → Int32), w = [(a 0, mO a v), (a 1, aI G 800 f1), (a 2, aI G 800 f2), (a 3, aI G 4800 f3), (a 5, aI G 1600 f5), (a 6, aZ G 2 f6), (a 7, aI G 60 f7), (a 17, aI G 12 f17), (a 21, aI G 12 f21), (a 22, aI G 12 f22), (a 23, aI G 12 f23), (a 24, aI G 12 f24), (a 25, aI G 12 f25), (a 26, aI G 12 f26), (a 27, aI G 12 f27), (a 28, aI G 12 f28), (a 29, aZ G 4 f29), (a 31, aI G 1300 f31), (a 32, aI G 1300 f32), (a 33, aI G 1300 f33), (a 34, aI G 1300 f34), (a 35, aI G 13000 f35), (a 36, aI G 606 f36), (a 37, aI G 12 f37), (a 38, aI G 12 f38), (a 41, aI G 64 f41)] ∧ (h = a 0) ∧ (wfO X) ∧ (rMS f1 (xS X)) ∧ (v 4 = nI (xH X).1) ∧ (rUn f3 (xH X)) ∧ (rSM f5 f6 (xL X)) ∧ (v 8 = nI (xP X).1 ∧ rP f7 (xP X)) ∧ (v 18 = -6)
theorem RMX_elim {G : GG} {h : Nat} {w : va_W} {X : SX} {P : Prop} (hR : RMX G h w X) (k : ∀ (a : Nat → Nat) (v : Nat → Int32) (f1 : Nat → Int32) (f2 : Nat → Int32) (f3 : Nat → Int32) (f5 : Nat → Int32) (f6 : Nat → Int32) (f7 : Nat → Int32) (f17 : Nat → Int32) (f21 : Nat → Int32) (f22 : Nat → Int32) (f23 : Nat → Int32) (f24 : Nat → Int32) (f25 : Nat → Int32) (f26 : Nat → Int32) (f27 : Nat → Int32) (f28 : Nat → Int32) (f29 : Nat → Int32) (f31 : Nat → Int32) (f32 : Nat → Int32) (f33 : Nat → Int32) (f34 : Nat → Int32) (f35 : Nat → Int32) (f36 : Nat → Int32) (f37 : Nat → Int32) (f38 : Nat → Int32) (f41 : Nat → Int32), w = [(a 0, mO a v), (a 1, aI G 800 f1), (a 2, aI G 800 f2), (a 3, aI G 4800 f3), (a 5, aI G 1600 f5), (a 6, aZ G 2 f6), (a 7, aI G 60 f7), (a 17, aI G 12 f17), (a 21, aI G 12 f21), (a 22, aI G 12 f22), (a 23, aI G 12 f23), (a 24, aI G 12 f24), (a 25, aI G 12 f25), (a 26, aI G 12 f26), (a 27, aI G 12 f27), (a 28, aI G 12 f28), (a 29, aZ G 4 f29), (a 31, aI G 1300 f31), (a 32, aI G 1300 f32), (a 33, aI G 1300 f33), (a 34, aI G 1300 f34), (a 35, aI G 13000 f35), (a 36, aI G 606 f36), (a 37, aI G 12 f37), (a 38, aI G 12 f38), (a 41, aI G 64 f41)] → (h = a 0) → (wfO X) → (rMS f1 (xS X)) → (v 4 = nI (xH X).1) → (rUn f3 (xH X)) → (rSM f5 f6 (xL X)) → (v 8 = nI (xP X).1 ∧ rP f7 (xP X)) → (v 18 = -6) → P) : P := by
  obtain ⟨a, v, f1, f2, f3, f5, f6, f7, f17, f21, f22, f23, f24, f25, f26, f27, f28, f29, f31, f32, f33, f34, f35, f36, f37, f38, f41, hw, hh, hO, hS, hU, hUn, hSl, hPd, h18⟩ := hR
  exact k a v f1 f2 f3 f5 f6 f7 f17 f21 f22 f23 f24 f25 f26 f27 f28 f29 f31 f32 f33 f34 f35 f36 f37 f38 f41 hw hh hO hS hU hUn hSl hPd h18
theorem rMS_D {f : Nat → Int32} {σ : SG} {d : Nat} (h : rMS f σ) (hw : wfS σ) : rMS (upd f 0 (nI d)) (d, σ.2) := ⟨rfl, (upd_n (by decide)).trans h.2.1, rMT_eq h.2.2.1 hw.2.2.1 (fun i a _ => upd_n (by omega)), rMR_eq h.2.2.2.1 hw.2.2.2.1.1 (fun i a _ => upd_n (by omega)), rMJ_eq h.2.2.2.2 hw.2.2.2.2 (fun i a _ => upd_n (by omega))⟩
theorem rMS_L {f : Nat → Int32} {σ : SG} {d : Nat} (h : rMS f σ) (hw : wfS σ) : rMS (upd f 1 (nI d)) (sD σ, d, σ.2.2) := ⟨(upd_n (by decide)).trans h.1, rfl, rMT_eq h.2.2.1 hw.2.2.1 (fun i a _ => upd_n (by omega)), rMR_eq h.2.2.2.1 hw.2.2.2.1.1 (fun i a _ => upd_n (by omega)), rMJ_eq h.2.2.2.2 hw.2.2.2.2 (fun i a _ => upd_n (by omega))⟩
theorem rMS_R {f g : Nat → Int32} {σ : SG} {ρ : TR} (h : rMS f σ) (hw : wfS σ) (hr : rMR g ρ) (e : ∀ i, (i < 102 ∨ 199 ≤ i) → g i = f i) : rMS g (wR σ ρ) := ⟨(e 0 (by decide)).trans h.1, (e 1 (by decide)).trans h.2.1, rMT_eq h.2.2.1 hw.2.2.1 (fun i a b => e i (by omega)), hr, rMJ_eq h.2.2.2.2 hw.2.2.2.2 (fun i a b => e i (by omega))⟩
theorem rMR_add {f : Nat → Int32} {ρ : TR} {t k s b : Nat} (h : rMR f ρ) (hw : ρ.1 < 12) : rMR (upd (upd (upd (upd (upd f (103 + 8 * ρ.1 + 0) (nI t)) (103 + 8 * ρ.1 + 1) (nI k)) (103 + 8 * ρ.1 + 2) (nI s)) (103 + 8 * ρ.1 + 3) (nI b)) 102 (nI (ρ.1 + 1))) (addR ρ t k s b) := by
  refine ⟨rfl, fun i hi c hc => ?_, fun i hi hi2 c hc => ?_⟩
  · have hi2 : i < ρ.1 + 1 := hi
    by_cases e : i = ρ.1
    · subst e
      have h0 := h.2.2 ρ.1 (Nat.le_refl _) hw
      rcases (show c = 0 ∨ c = 1 ∨ c = 2 ∨ c = 3 ∨ 4 ≤ c by omega) with rfl | rfl | rfl | rfl | hc4
      · rw [upd_n (by omega), upd_n (by omega), upd_n (by omega), upd_n (by omega), upd_e rfl]; simp [addR]
      · rw [upd_n (by omega), upd_n (by omega), upd_n (by omega), upd_e rfl]; simp [addR]
      · rw [upd_n (by omega), upd_n (by omega), upd_e rfl]; simp [addR]
      · rw [upd_n (by omega), upd_e rfl]; simp [addR]
      · rw [upd_n (by omega), upd_n (by omega), upd_n (by omega), upd_n (by omega), upd_n (by omega), h0 c hc]
        show (0 : Int32) = nI (if ρ.1 = ρ.1 then (if c = 0 then t else if c = 1 then k else if c = 2 then s else if c = 3 then b else 0) else ρ.2 ρ.1 c)
        rw [if_pos rfl, if_neg (by omega), if_neg (by omega), if_neg (by omega), if_neg (by omega)]
        rfl
    · simp only [addR, if_neg e]
      rw [upd_n (by omega), upd_n (by omega), upd_n (by omega), upd_n (by omega), upd_n (by omega)]
      exact h.2.1 i (by omega) c hc
  · have hi3 : ρ.1 + 1 ≤ i := hi
    rw [upd_n (by omega), upd_n (by omega), upd_n (by omega), upd_n (by omega), upd_n (by omega)]
    exact h.2.2 i (by omega) hi2 c hc
theorem rMR_deed {f : Nat → Int32} {ρ : TR} {q d t s m : Nat} (h : rMR f ρ) (hw : ρ.1 ≤ 12) (hq : q < ρ.1) : rMR (upd (upd (upd (upd f (103 + 8 * q + 4) (nI d)) (103 + 8 * q + 5) (nI t)) (103 + 8 * q + 6) (nI s)) (103 + 8 * q + 7) (nI m)) (deedR ρ q d t s m) := by
  refine ⟨?_, fun i hi c hc => ?_, fun i hi hi2 c hc => ?_⟩
  · rw [upd_n (by omega), upd_n (by omega), upd_n (by omega), upd_n (by omega)]
    exact h.1
  · have h1 := h.2.1 i hi c hc
    by_cases e : i = q
    · subst e
      rcases (show c = 4 ∨ c = 5 ∨ c = 6 ∨ c = 7 ∨ c < 4 by omega) with rfl | rfl | rfl | rfl | hc4
      · rw [upd_n (by omega), upd_n (by omega), upd_n (by omega), upd_e rfl]; simp [deedR]
      · rw [upd_n (by omega), upd_n (by omega), upd_e rfl]; simp [deedR]
      · rw [upd_n (by omega), upd_e rfl]; simp [deedR]
      · rw [upd_e rfl]; simp [deedR]
      · rw [upd_n (by omega), upd_n (by omega), upd_n (by omega), upd_n (by omega), h1]
        show _ = nI (if i = i ∧ 4 ≤ c then _ else _)
        rw [if_neg (by omega)]
    · have e2 : ¬ (i = q ∧ 4 ≤ c) := fun h => e h.1
      simp only [deedR, if_neg e2]
      rw [upd_n (by omega), upd_n (by omega), upd_n (by omega), upd_n (by omega)]
      exact h1
  · have hi3 : ρ.1 ≤ i := hi
    rw [upd_n (by omega), upd_n (by omega), upd_n (by omega), upd_n (by omega)]
    exact h.2.2 i hi hi2 c hc
theorem rMR_drp {f g : Nat → Int32} {ρ : TR} {q : Nat} (h : rMR f ρ) (hw : ρ.1 ≤ 12) (hq : q < ρ.1) (h1 : ∀ j, 103 ≤ j → j < 103 + 8 * q → g j = f j) (h2 : ∀ j, 103 + 8 * q ≤ j → j < 103 + 8 * (ρ.1 - 1) → g j = f (j + 8)) (h3 : ∀ i, i < 8 → g (103 + 8 * (ρ.1 - 1) + i) = 0) (h4 : ∀ j, 103 + 8 * ρ.1 ≤ j → j < 199 → g j = f j) (h5 : g 102 = nI (ρ.1 - 1)) : rMR g (drpR ρ q) := by
  refine ⟨h5, fun i hi c hc => ?_, fun i hi hi2 c hc => ?_⟩
  · have hi2 : i < ρ.1 - 1 := hi
    by_cases e : i < q
    · simp only [drpR, if_pos e]
      rw [h1 _ (by omega) (by omega)]
      exact h.2.1 i (by omega) c hc
    · simp only [drpR, if_neg e]
      rw [h2 _ (by omega) (by omega), show 103 + 8 * i + c + 8 = 103 + 8 * (i + 1) + c by omega]
      exact h.2.1 (i + 1) (by omega) c hc
  · have hi3 : ρ.1 - 1 ≤ i := hi
    by_cases e : i = ρ.1 - 1
    · subst e
      exact h3 c hc
    · rw [h4 _ (by omega) (by omega)]
      exact h.2.2 i (by omega) hi2 c hc
theorem kp_lt {h : HS} {σ : SG} {i : Nat} (hz : h.1 ≤ 6) (hi : i + 1 < (kpH h σ).1) : (kpH h σ).2 i = if h.1 = 6 then h.2 (i + 1) else h.2 i := by
  unfold kpH at hi ⊢
  by_cases e : h.1 = 6
  · rw [if_pos e] at hi ⊢
    rw [if_pos e]
    have hi2 : i + 1 < 6 := hi
    show (if i = 5 then σ else h.2 (i + 1)) = _
    rw [if_neg (by omega)]
  · rw [if_neg e] at hi ⊢
    rw [if_neg e]
    have hi2 : i + 1 < h.1 + 1 := hi
    show (if i = h.1 then σ else h.2 i) = _
    rw [if_neg (by omega)]
theorem kp_last {h : HS} {σ : SG} {i : Nat} (hi : i + 1 = (kpH h σ).1) : (kpH h σ).2 i = σ := by
  unfold kpH at hi ⊢
  by_cases e : h.1 = 6
  · rw [if_pos e] at hi ⊢
    have hi2 : i + 1 = 6 := hi
    show (if i = 5 then σ else h.2 (i + 1)) = _
    rw [if_pos (by omega)]
  · rw [if_neg e] at hi ⊢
    have hi2 : i + 1 = h.1 + 1 := hi
    show (if i = h.1 then σ else h.2 i) = _
    rw [if_pos (by omega)]
set_option maxHeartbeats 4000000 in
set_option maxRecDepth 100000 in
theorem c_X9_records (l : Launch) (G : GG) (a : Nat → Nat) (v : Nat → Int32) (f1 : Nat → Int32) (f3 : Nat → Int32) (H : HS) (σ : SG) (hU : v 4 = nI H.1) (hz : H.1 ≤ 6) (hH : wfH H) (hUn : rUn f3 H) (hS : rMS f1 σ) (hs : wfS σ) : MT l G yX9_records cX9_records 2 none 1 0 0 [.ref (a 0)] [(a 0, mO a v), (a 1, aI G 800 f1), (a 3, aI G 4800 f3)] (fun v9 ws9 => ∃ (v2 : Nat → Int32) (g3 : Nat → Int32), v9 = none ∧ ws9 = [(a 0, mO a v2), (a 1, aI G 800 f1), (a 3, aI G 4800 g3)] ∧ v2 4 = nI (kpH H σ).1 ∧ (∀ k, ¬ k = 4 → v2 k = v k) ∧ rUn g3 (kpH H σ)) := by
  refine MT.of RX9 [(0, .ref (a 0))] (by decide +kernel) rfl rfl (Nat.le_of_ble_eq_true rfl) (fun κ C E hl9 hG9 hnm9 => ?_)
  subst hl9; subst hG9
  refine w_aload_n (nx := 1) C 0 dX9_records_0 rfl rfl rfl ?_
  refine w_getM (nx := 4) C (.int (v 4)) 0 4 dX9_records_1 rfl wl_X9_97 rfl (by decide) rfl (mg_4 _ _) ?_
  refine w_top (nI H.1) hU ?_
  refine w_bipush (nx := 6) C (nI 6) dX9_records_4 rfl (by decide) ?_
  refine n_icmp_ne (tg := 50) (nx := 9) C dX9_records_6 rfl rfl (by omega) (by omega) (fun h_1 => ?_) (fun h_1 => ?_)
  · have LP_2 : ∀ (vv : Nat → Int32) (p3 : Nat → Int32) (um : Nat), (vv 4 = nI um) → (∀ k, ¬ k = 4 → vv k = v k) → (um + 1 = (kpH H σ).1) → (um ≤ 5) → (∀ i, i < um → rMS (fun k => p3 (800 * i + k)) ((kpH H σ).2 i)) → WW κ 0 0 [(a 0, mO a vv), (a 1, aI (kG κ) 800 f1), (a 3, aI (kG κ) 4800 p3)] 50 [(0, .ref (a 0))] [] := by
      intro vv p3 um hum hvv huz hu5 hun
      refine w_iconst (nx := 51) C (nI 0) dX9_records_50 rfl (by decide) ?_
      refine w_istore_n (nx := 52) (lo2 := [(1, .int (nI 0)), (0, .ref (a 0))]) C dX9_records_51 rfl rfl (by decide) rfl ?_
      have LP_3 : ∀ (N9_52 : Nat) (g3 : Nat → Int32) (k : Nat), (k ≤ 800) → (∀ i, i < k → g3 (800 * um + i) = f1 i) → (∀ i, i < 800 * um → g3 i = p3 i) → (800 - k) < N9_52 → WW κ 0 0 [(a 0, mO a vv), (a 1, aI (kG κ) 800 f1), (a 3, aI (kG κ) 4800 g3)] 52 [(0, .ref (a 0)), (1, .int (nI k))] [] := by
        intro N9_52
        induction N9_52 with
        | zero => intro g3 k hk hg1 hg2 hm9_52; exact absurd hm9_52 (Nat.not_lt_zero _)
        | succ N9_52 ih9_52 =>
          intro g3 k hk hg1 hg2 hm9_52
          refine w_iload_n (nx := 53) C 1 dX9_records_52 rfl rfl rfl ?_
          refine w_sipush (nx := 56) C (nI 800) dX9_records_53 rfl (by decide) ?_
          refine n_icmp_ge (tg := 86) (nx := 59) C dX9_records_56 rfl rfl (by omega) (by omega) (fun h_4 => ?_) (fun h_4 => ?_)
          · refine w_aload_n (nx := 87) C 0 dX9_records_86 rfl rfl rfl ?_
            refine w_dup (nx := 88) C dX9_records_87 rfl rfl ?_
            refine w_getM (nx := 91) C (.int (vv 4)) 0 4 dX9_records_88 rfl wl_X9_97 rfl (by decide) rfl (mg_4 _ _) ?_
            refine w_top (nI um) hum ?_
            refine w_iconst (nx := 92) C (nI 1) dX9_records_91 rfl (by decide) ?_
            refine w_iadd (nx := 93) C (nI (um + 1)) dX9_records_92 rfl (nI_add _ _) ?_
            refine w_putM (nx := 96) (ws2 := [(a 0, mO a (upd vv 4 (nI (um + 1)))), (a 1, aI (kG κ) 800 f1), (a 3, aI (kG κ) 4800 g3)]) C 0 4 dX9_records_93 rfl wl_X9_97 rfl (by decide) rfl rfl rfl (ms_4 _ _ _) rfl ?_
            exact w_vret C E dX9_records_96 rfl (Nat.le_refl _) (Nat.le_refl _) ⟨_, _, rfl, rfl, (congrArg nI huz), (fun k hk => (upd_n hk).trans (hvv k hk)), (fun i hi => (Nat.lt_or_ge i um).elim (fun z => rMS_eq (hun i z) (wfH_kp hH hs |>.2 i hi) (fun q hq => hg2 _ (by omega))) (fun z => by have e9 : i = um := (by omega); subst e9; rw [kp_last huz]; exact rMS_eq hS hs (fun q hq => hg1 q (by omega))))⟩
          · refine w_aload_n (nx := 60) C 0 dX9_records_59 rfl rfl rfl ?_
            refine w_getM (nx := 63) C (.ref (a 3)) 0 3 dX9_records_60 rfl wl_X9_16 rfl (by decide) rfl (mg_3 _ _) ?_
            refine w_sipush (nx := 66) C (nI 800) dX9_records_63 rfl (by decide) ?_
            refine w_aload_n (nx := 67) C 0 dX9_records_66 rfl rfl rfl ?_
            refine w_getM (nx := 70) C (.int (vv 4)) 0 4 dX9_records_67 rfl wl_X9_97 rfl (by decide) rfl (mg_4 _ _) ?_
            refine w_top (nI um) hum ?_
            refine w_imul (nx := 71) C (nI (800 * um)) dX9_records_70 rfl (pk_mul _ _) ?_
            refine w_iload_n (nx := 72) C 1 dX9_records_71 rfl rfl rfl ?_
            refine w_iadd (nx := 73) C (nI (800 * um + k)) dX9_records_72 rfl (nI_add _ _) ?_
            refine w_aload_n (nx := 74) C 0 dX9_records_73 rfl rfl rfl ?_
            refine w_getM (nx := 77) C (.ref (a 1)) 0 1 dX9_records_74 rfl wl_X9_7 rfl (by decide) rfl (mg_1 _ _) ?_
            refine w_iload_n (nx := 78) C 1 dX9_records_77 rfl rfl rfl ?_
            refine w_iald (nx := 79) C (f1 k) 1 k dX9_records_78 rfl rfl (by decide) rfl (by omega) rfl ?_
            refine w_iast (nx := 80) (ws2 := [(a 0, mO a vv), (a 1, aI (kG κ) 800 f1), (a 3, aI (kG κ) 4800 (upd g3 (800 * um + k) (f1 k)))]) C 2 (800 * um + k) dX9_records_79 rfl rfl (by decide) rfl (by omega) rfl ?_
            refine w_iinc (nx := 83) (lo2 := [(1, .int (nI (k + 1))), (0, .ref (a 0))]) C (nI (k + 1)) 1 dX9_records_80 rfl rfl (nI_add _ _) (by decide) rfl ?_
            refine w_goto (nx := 52) C dX9_records_83 rfl ?_
            refine ww_lo [1, 0] (lo' := [(0, .ref (a 0)), (1, .int (nI (k + 1)))]) rfl ?_
            exact ih9_52 (upd g3 (800 * um + k) (f1 k)) (k + 1) (by first | assumption | omega) (fun i hi => (Nat.lt_or_ge i k).elim (fun z => (upd_n (by omega)).trans (hg1 i z)) (fun z => by have e9 : i = k := (by omega); subst e9; exact upd_e rfl)) (fun i hi => (upd_n (by omega)).trans (hg2 i hi)) (by omega)
      refine ww_lo [1, 0] (lo' := [(0, .ref (a 0)), (1, .int (nI 0))]) rfl ?_
      exact LP_3 _ p3 0 (Nat.zero_le _) (fun i hi => absurd hi (Nat.not_lt_zero _)) (fun _ _ => rfl) (Nat.lt_succ_self _)
    exact LP_2 v f3 H.1 (hU) (fun _ _ => rfl) (by rw [kp_z hz, if_neg (by assumption)]) (by omega) (fun i hi => by rw [kp_lt hz (by rw [kp_z hz, if_neg (by assumption)]; omega), if_neg (by assumption)]; exact hUn i hi)
  · have h6 : H.1 = 6 := by omega
    refine w_iconst (nx := 10) C (nI 0) dX9_records_9 rfl (by decide) ?_
    refine w_istore_n (nx := 11) (lo2 := [(1, .int (nI 0)), (0, .ref (a 0))]) C dX9_records_10 rfl rfl (by decide) rfl ?_
    have LP_5 : ∀ (N9_11 : Nat) (p3 : Nat → Int32) (k : Nat), (k ≤ 4000) → (∀ i, i < k → p3 i = f3 (i + 800)) → (∀ i, k ≤ i → p3 i = f3 i) → (4000 - k) < N9_11 → WW κ 0 0 [(a 0, mO a v), (a 1, aI (kG κ) 800 f1), (a 3, aI (kG κ) 4800 p3)] 11 [(0, .ref (a 0)), (1, .int (nI k))] [] := by
      intro N9_11
      induction N9_11 with
      | zero => intro p3 k hk hp1 hp2 hm9_11; exact absurd hm9_11 (Nat.not_lt_zero _)
      | succ N9_11 ih9_11 =>
        intro p3 k hk hp1 hp2 hm9_11
        refine w_iload_n (nx := 12) C 1 dX9_records_11 rfl rfl rfl ?_
        refine w_sipush (nx := 15) C (nI 4000) dX9_records_12 rfl (by decide) ?_
        refine n_icmp_ge (tg := 40) (nx := 18) C dX9_records_15 rfl rfl (by omega) (by omega) (fun h_6 => ?_) (fun h_6 => ?_)
        · refine w_aload_n (nx := 41) C 0 dX9_records_40 rfl rfl rfl ?_
          refine w_dup (nx := 42) C dX9_records_41 rfl rfl ?_
          refine w_getM (nx := 45) C (.int (v 4)) 0 4 dX9_records_42 rfl wl_X9_97 rfl (by decide) rfl (mg_4 _ _) ?_
          refine w_top (nI H.1) hU ?_
          refine w_iconst (nx := 46) C (nI 1) dX9_records_45 rfl (by decide) ?_
          refine w_isub (nx := 47) C (nI (H.1 - 1)) dX9_records_46 rfl (pk_sub (by omega)) ?_
          refine w_putM (nx := 50) (ws2 := [(a 0, mO a (upd v 4 (nI (H.1 - 1)))), (a 1, aI (kG κ) 800 f1), (a 3, aI (kG κ) 4800 p3)]) C 0 4 dX9_records_47 rfl wl_X9_97 rfl (by decide) rfl rfl rfl (ms_4 _ _ _) rfl ?_
          have LP_7 : ∀ (vv : Nat → Int32) (p3 : Nat → Int32) (um : Nat), (vv 4 = nI um) → (∀ k, ¬ k = 4 → vv k = v k) → (um + 1 = (kpH H σ).1) → (um ≤ 5) → (∀ i, i < um → rMS (fun k => p3 (800 * i + k)) ((kpH H σ).2 i)) → WW κ 0 0 [(a 0, mO a vv), (a 1, aI (kG κ) 800 f1), (a 3, aI (kG κ) 4800 p3)] 50 [(0, .ref (a 0))] [] := by
            intro vv p3 um hum hvv huz hu5 hun
            refine w_iconst (nx := 51) C (nI 0) dX9_records_50 rfl (by decide) ?_
            refine w_istore_n (nx := 52) (lo2 := [(1, .int (nI 0)), (0, .ref (a 0))]) C dX9_records_51 rfl rfl (by decide) rfl ?_
            have LP_8 : ∀ (N9_52 : Nat) (g3 : Nat → Int32) (k : Nat), (k ≤ 800) → (∀ i, i < k → g3 (800 * um + i) = f1 i) → (∀ i, i < 800 * um → g3 i = p3 i) → (800 - k) < N9_52 → WW κ 0 0 [(a 0, mO a vv), (a 1, aI (kG κ) 800 f1), (a 3, aI (kG κ) 4800 g3)] 52 [(0, .ref (a 0)), (1, .int (nI k))] [] := by
              intro N9_52
              induction N9_52 with
              | zero => intro g3 k hk hg1 hg2 hm9_52; exact absurd hm9_52 (Nat.not_lt_zero _)
              | succ N9_52 ih9_52 =>
                intro g3 k hk hg1 hg2 hm9_52
                refine w_iload_n (nx := 53) C 1 dX9_records_52 rfl rfl rfl ?_
                refine w_sipush (nx := 56) C (nI 800) dX9_records_53 rfl (by decide) ?_
                refine n_icmp_ge (tg := 86) (nx := 59) C dX9_records_56 rfl rfl (by omega) (by omega) (fun h_9 => ?_) (fun h_9 => ?_)
                · refine w_aload_n (nx := 87) C 0 dX9_records_86 rfl rfl rfl ?_
                  refine w_dup (nx := 88) C dX9_records_87 rfl rfl ?_
                  refine w_getM (nx := 91) C (.int (vv 4)) 0 4 dX9_records_88 rfl wl_X9_97 rfl (by decide) rfl (mg_4 _ _) ?_
                  refine w_top (nI um) hum ?_
                  refine w_iconst (nx := 92) C (nI 1) dX9_records_91 rfl (by decide) ?_
                  refine w_iadd (nx := 93) C (nI (um + 1)) dX9_records_92 rfl (nI_add _ _) ?_
                  refine w_putM (nx := 96) (ws2 := [(a 0, mO a (upd vv 4 (nI (um + 1)))), (a 1, aI (kG κ) 800 f1), (a 3, aI (kG κ) 4800 g3)]) C 0 4 dX9_records_93 rfl wl_X9_97 rfl (by decide) rfl rfl rfl (ms_4 _ _ _) rfl ?_
                  exact w_vret C E dX9_records_96 rfl (Nat.le_refl _) (Nat.le_refl _) ⟨_, _, rfl, rfl, (congrArg nI huz), (fun k hk => (upd_n hk).trans (hvv k hk)), (fun i hi => (Nat.lt_or_ge i um).elim (fun z => rMS_eq (hun i z) (wfH_kp hH hs |>.2 i hi) (fun q hq => hg2 _ (by omega))) (fun z => by have e9 : i = um := (by omega); subst e9; rw [kp_last huz]; exact rMS_eq hS hs (fun q hq => hg1 q (by omega))))⟩
                · refine w_aload_n (nx := 60) C 0 dX9_records_59 rfl rfl rfl ?_
                  refine w_getM (nx := 63) C (.ref (a 3)) 0 3 dX9_records_60 rfl wl_X9_16 rfl (by decide) rfl (mg_3 _ _) ?_
                  refine w_sipush (nx := 66) C (nI 800) dX9_records_63 rfl (by decide) ?_
                  refine w_aload_n (nx := 67) C 0 dX9_records_66 rfl rfl rfl ?_
                  refine w_getM (nx := 70) C (.int (vv 4)) 0 4 dX9_records_67 rfl wl_X9_97 rfl (by decide) rfl (mg_4 _ _) ?_
                  refine w_top (nI um) hum ?_
                  refine w_imul (nx := 71) C (nI (800 * um)) dX9_records_70 rfl (pk_mul _ _) ?_
                  refine w_iload_n (nx := 72) C 1 dX9_records_71 rfl rfl rfl ?_
                  refine w_iadd (nx := 73) C (nI (800 * um + k)) dX9_records_72 rfl (nI_add _ _) ?_
                  refine w_aload_n (nx := 74) C 0 dX9_records_73 rfl rfl rfl ?_
                  refine w_getM (nx := 77) C (.ref (a 1)) 0 1 dX9_records_74 rfl wl_X9_7 rfl (by decide) rfl (mg_1 _ _) ?_
                  refine w_iload_n (nx := 78) C 1 dX9_records_77 rfl rfl rfl ?_
                  refine w_iald (nx := 79) C (f1 k) 1 k dX9_records_78 rfl rfl (by decide) rfl (by omega) rfl ?_
                  refine w_iast (nx := 80) (ws2 := [(a 0, mO a vv), (a 1, aI (kG κ) 800 f1), (a 3, aI (kG κ) 4800 (upd g3 (800 * um + k) (f1 k)))]) C 2 (800 * um + k) dX9_records_79 rfl rfl (by decide) rfl (by omega) rfl ?_
                  refine w_iinc (nx := 83) (lo2 := [(1, .int (nI (k + 1))), (0, .ref (a 0))]) C (nI (k + 1)) 1 dX9_records_80 rfl rfl (nI_add _ _) (by decide) rfl ?_
                  refine w_goto (nx := 52) C dX9_records_83 rfl ?_
                  refine ww_lo [1, 0] (lo' := [(0, .ref (a 0)), (1, .int (nI (k + 1)))]) rfl ?_
                  exact ih9_52 (upd g3 (800 * um + k) (f1 k)) (k + 1) (by first | assumption | omega) (fun i hi => (Nat.lt_or_ge i k).elim (fun z => (upd_n (by omega)).trans (hg1 i z)) (fun z => by have e9 : i = k := (by omega); subst e9; exact upd_e rfl)) (fun i hi => (upd_n (by omega)).trans (hg2 i hi)) (by omega)
            refine ww_lo [1, 0] (lo' := [(0, .ref (a 0)), (1, .int (nI 0))]) rfl ?_
            exact LP_8 _ p3 0 (Nat.zero_le _) (fun i hi => absurd hi (Nat.not_lt_zero _)) (fun _ _ => rfl) (Nat.lt_succ_self _)
          refine ww_lo [0] (lo' := [(0, .ref (a 0))]) rfl ?_
          exact LP_7 (upd v 4 (nI (H.1 - 1))) p3 (H.1 - 1) (rfl) (fun k hk => upd_n hk) (by rw [kp_z hz, if_pos h6]; omega) (by omega) (fun i hi => by rw [kp_lt hz (by rw [kp_z hz, if_pos h6]; omega), if_pos h6]; exact rMS_eq (hUn (i + 1) (by omega)) (hH.2 _ (by omega)) (fun q hq => (hp1 _ (by omega)).trans (congrArg f3 (by omega))))
        · refine w_aload_n (nx := 19) C 0 dX9_records_18 rfl rfl rfl ?_
          refine w_getM (nx := 22) C (.ref (a 3)) 0 3 dX9_records_19 rfl wl_X9_16 rfl (by decide) rfl (mg_3 _ _) ?_
          refine w_iload_n (nx := 23) C 1 dX9_records_22 rfl rfl rfl ?_
          refine w_aload_n (nx := 24) C 0 dX9_records_23 rfl rfl rfl ?_
          refine w_getM (nx := 27) C (.ref (a 3)) 0 3 dX9_records_24 rfl wl_X9_16 rfl (by decide) rfl (mg_3 _ _) ?_
          refine w_iload_n (nx := 28) C 1 dX9_records_27 rfl rfl rfl ?_
          refine w_sipush (nx := 31) C (nI 800) dX9_records_28 rfl (by decide) ?_
          refine w_iadd (nx := 32) C (nI (k + 800)) dX9_records_31 rfl (nI_add _ _) ?_
          refine w_iald (nx := 33) C (p3 (k + 800)) 2 (k + 800) dX9_records_32 rfl rfl (by decide) rfl (by omega) rfl ?_
          refine w_iast (nx := 34) (ws2 := [(a 0, mO a v), (a 1, aI (kG κ) 800 f1), (a 3, aI (kG κ) 4800 (upd p3 k (p3 (k + 800))))]) C 2 k dX9_records_33 rfl rfl (by decide) rfl (by omega) rfl ?_
          refine w_iinc (nx := 37) (lo2 := [(1, .int (nI (k + 1))), (0, .ref (a 0))]) C (nI (k + 1)) 1 dX9_records_34 rfl rfl (nI_add _ _) (by decide) rfl ?_
          refine w_goto (nx := 11) C dX9_records_37 rfl ?_
          refine ww_lo [1, 0] (lo' := [(0, .ref (a 0)), (1, .int (nI (k + 1)))]) rfl ?_
          exact ih9_11 (upd p3 k (p3 (k + 800))) (k + 1) (by first | assumption | omega) (fun i hi => (Nat.lt_or_ge i k).elim (fun z => (upd_n (by omega)).trans (hp1 i z)) (fun z => by have e9 : i = k := (by omega); subst e9; exact (upd_e rfl).trans (hp2 _ (by omega)))) (fun i hi => (upd_n (by omega)).trans (hp2 i (by omega))) (by omega)
    refine ww_lo [1, 0] (lo' := [(0, .ref (a 0)), (1, .int (nI 0))]) rfl ?_
    exact LP_5 _ f3 0 (Nat.zero_le _) (fun i hi => absurd hi (Nat.not_lt_zero _)) (fun _ _ => rfl) (Nat.lt_succ_self _)
