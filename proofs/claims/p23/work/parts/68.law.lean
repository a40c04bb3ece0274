/-! THE CLAIM OUT OF ONE WALK OF THE LAW'S BODY. Your part is whole_start (and what it stands on); all else here is the same for every law, but numbers. -/
def R_law : String := "TriggerStagesLaw"
def lw_P (b : Addr) (xs : List Int32) (args : Array Value) (s : State) : Prop := args = #[.ref b] ∧ s.IntsAt b xs ∧ xs.length ≤ 260 ∧ (Jvm.Cond.and given_1 narrow_1).before args s = true
def lw_Q (_ : Array Value) (s : State) (o : Outcome) (t : State) : Prop := o = .returned (some (.int 1)) ∧ Framed s o t [] 600000 7302250
def lw_Z (below : List Frame) (a : Array Value) (s : State) : State → Prop := fun t => ∃ o, t.status = .running ∧ Ended t below o ∧ lw_Q a s o t
/-- the law's own end, with 1 on the stack, nothing written that was there before, its room as the claim has it -/
theorem lw_ret {p : Program} {l : Launch} {e : Env} {s : State} {m : MethodId} {below : List Frame} {meth : Method} {c : Code} {b : Nat} (hx : p.tables.exec = Jvm.exec) (hb : c.code = code) (hr : meth.sig.returnType = ret) (hlocks : meth.locks = false) {pc : Nat} {H : Heap} {ls : Array Slot} (hdg : decode code pc = .ok (.ireturn, 1)) : W p l e room_1 s m #[Value.ref b] below meth c H [] 600000 7302250 (lw_Z below #[Value.ref b] s) (F0 m pc ls [.int 1]) := by
  intro T hT X
  obtain ⟨fs, hret, hrun, hended, hW, hframe⟩ := X.leave (v := some (.int 1)) (hlocks := hlocks) (fun h => by rw [hr] at h; cases h)
  have hmeth' : T.vm.method? m = some meth := X.method'
  refine ⟨T.setFrames fs, ?_, .returned (some (.int 1)), hrun, hended, rfl, ⟨_, rfl⟩, hW, hframe⟩
  jvm_step X.here [X.here.top, hx, hb, hdg, hmeth', hr, ret, narrow_b1]
  (try refine ⟨rfl, ?_⟩); (try refine ⟨rfl, ?_⟩)
  first | (intro acts; rw [hret _ acts rfl rfl rfl]) | rw [hret _ _ rfl rfl rfl]
  exact Steps.refl _
/-- what holds at the law's entry: the machine, the code, the tables' words (any of lw_tbl by 'hts w (by decide +kernel)'), the script of L ints xs at the cell b, what the Statement gives of the start (any of its parts by flat_of_before) -/
def lw_At (p : Program) (s : State) (m : MethodId) (meth : Method) (c : Code) (b L : Nat) (xs : Nat → Int32) : Prop :=
  p.tables.exec = Jvm.exec ∧ c.code = code ∧ meth.sig.returnType = ret ∧ c.maxLocals = 20 ∧ s.vm.findClass R_law = some m.cls ∧ (∀ w ∈ lw_tbl, w.before #[Value.ref b] s = true) ∧ va_X b L xs s s.heap ∧ b < s.heap.size ∧ meth.locks = false ∧ (Jvm.Cond.and given_1 narrow_1).before #[Value.ref b] s = true
theorem rc_c {x : Nat} (h : x ≤ 600000) : x ≤ room_1.cells := h
theorem rc_s {x : Nat} (h : x ≤ 7302250) : x ≤ room_1.slots := h
theorem ge_no {g : Int32} (h : g < 0) : ¬ 0 ≤ g := fun z => by
  have h1 := Int32.lt_iff_toInt_lt.mp h
  have h2 := Int32.le_iff_toInt_le.mp z
  omega
theorem ge_yes {g : Int32} (h : ¬ g < 0) : 0 ≤ g := by
  rw [Int32.le_iff_toInt_le]
  have h1 : ¬ g.toInt < (0 : Int32).toInt := fun z => h (Int32.lt_iff_toInt_lt.mpr z)
  omega
/-- what holds at the head of the loop: the object, and the digest of the state that is saved -/
def INV (X : SX) (sv : Int64) : Prop := wfO X ∧ asT (sT (xS X)) ∧ (∃ σ0, xL X 0 = some σ0 ∧ asT (sT σ0) ∧ sv = dgS σ0) ∧ xL X 1 = none
theorem kp_last {h : HS} {σ : SG} : (kpH h σ).2 ((kpH h σ).1 - 1) = σ := by
  unfold kpH
  split
  · show (if 6 - 1 = 5 then σ else h.2 (6 - 1 + 1)) = σ
    exact if_pos rfl
  · show (if h.1 + 1 - 1 = h.1 then σ else h.2 (h.1 + 1 - 1)) = σ
    rw [if_pos (by omega)]
theorem INV_of {X Y : SX} {sv : Int64} {σ : SG} {hh : HS} {pp : PD} (hI : INV X sv) (hY : Y = (σ, hh, xL X, pp)) (hw : wfO Y) (ha : asT (sT σ)) : INV Y sv := by
  subst hY
  exact ⟨hw, ha, hI.2.2.1, hI.2.2.2⟩
theorem act_cases {v : Int32} {F : SX → Int32 × SX} {X : SX} {sv : Int64} (hA : ACT v F) (hI : INV X sv) : ((F X).1 < 0 ∧ (F X).2 = X) ∨ (¬ (F X).1 < 0 ∧ INV (F X).2 sv ∧ ((xH X).1 = 6 → (xH (F X).2).1 = 6) ∧ (¬ (xH X).1 = 6 → (xH (F X).2).1 = (xH X).1 + 1) ∧ (v &&& nI 15 = nI 6 → dgS (xS (F X).2) = sv) ∧ ¬ (xH (F X).2).1 = 0 ∧ INV (o_undo (F X).2).2 sv ∧ xS (o_undo (F X).2).2 = xS X ∧ (F (o_undo (F X).2).2).1 = (F X).1 ∧ xS (F (o_undo (F X).2).2).2 = xS (F X).2 ∧ INV (F (o_undo (F X).2).2).2 sv) := by
  obtain ⟨f, h1, h2, h3, h4⟩ := hA
  obtain ⟨w, a, ⟨σ0, e0, a0, d0⟩, n1⟩ := id hI
  obtain ⟨q1, q2⟩ := h1 X w
  rcases q2 with ⟨e, hn, e2⟩ | ⟨σ, e, hn, e2⟩
  · exact Or.inl ⟨by rw [q1]; exact hn, e2⟩
  · refine Or.inr ?_
    have hs : asT (sT σ) := h3 _ _ σ e w.1 a (fun σ1 z => by rw [e0] at z; cases some_inj z; exact a0) n1
    have wY : wfO (F X).2 := h2 X w
    have hz6 := w.2.1.1
    have kz : (kpH (xH X) (xS X)).1 = if (xH X).1 = 6 then 6 else (xH X).1 + 1 := kp_z hz6
    have hYH : xH (F X).2 = kpH (xH X) (xS X) := congrArg (fun Y : SX => xH Y) e2
    have k6 : (xH X).1 = 6 → (xH (F X).2).1 = 6 := fun z => by rw [hYH, kz, if_pos z]
    have k7 : ¬ (xH X).1 = 6 → (xH (F X).2).1 = (xH X).1 + 1 := fun z => by rw [hYH, kz, if_neg z]
    have hz : ¬ (xH (F X).2).1 = 0 := fun z => by
      by_cases z6 : (xH X).1 = 6
      · have := k6 z6; omega
      · have := k7 z6; omega
    have hI1 : INV (F X).2 sv := INV_of hI e2 wY hs
    have hZ : (o_undo (F X).2).2 = (xS X, ((kpH (xH X) (xS X)).1 - 1, (kpH (xH X) (xS X)).2), xL X, xP X) := by
      unfold o_undo
      rw [if_neg hz, e2]
      show ((kpH (xH X) (xS X)).2 ((kpH (xH X) (xS X)).1 - 1), _, _) = _
      rw [kp_last]
    have wZ : wfO (o_undo (F X).2).2 := w_o_undo wY
    have hI2 : INV (o_undo (F X).2).2 sv := INV_of hI hZ wZ a
    have hZs : xS (o_undo (F X).2).2 = xS X := by rw [hZ]
    have hZl : xL (o_undo (F X).2).2 = xL X := by rw [hZ]
    obtain ⟨r1, r2⟩ := h1 (o_undo (F X).2).2 wZ
    rw [hZs, hZl] at r1 r2
    have r3 : (F (o_undo (F X).2).2).1 = (F X).1 := r1.trans q1.symm
    rcases r2 with ⟨e', -, -⟩ | ⟨σ', e', -, e3⟩
    · rw [e] at e'; cases e'
    · rw [e] at e'
      cases some_inj e'
      refine ⟨by rw [q1]; exact hn, hI1, k6, k7, fun z => ?_, hz, hI2, hZs, r3, ?_, ?_⟩
      · have z0 := h4 z _ _ σ e n1
        rw [e0] at z0
        cases some_inj z0
        exact (congrArg (fun Y : SX => dgS (xS Y)) e2).trans d0.symm
      · exact (congrArg (fun Y : SX => xS Y) e3).trans (congrArg (fun Y : SX => xS Y) e2).symm
      · exact INV_of hI e3 (h2 _ wZ) hs
theorem u_rest1 {X : SX} (hl : xL X 1 = none) : o_restore X (nI 1) = (-5, X) := by unfold o_restore; rw [if_neg (fun z => z ⟨1, by decide, rfl⟩), tn_nI (show 1 < 2 ^ 31 by decide), hl]
theorem u_rest0 {X : SX} {σ : SG} (hl : xL X 0 = some σ) : o_restore X (nI 0) = (nI (allT (sT σ)), (σ, kpH (xH X) (xS X), xL X, xP X)) := by unfold o_restore; rw [if_neg (fun z => z ⟨0, by decide, rfl⟩), tn_nI (show 0 < 2 ^ 31 by decide), hl]
theorem u_save {X : SX} : o_save X (nI 0) = (nI (allT (sT (xS X))), (xS X, xH X, (fun i => if i = tn (nI 0) then some (xS X) else xL X i), xP X)) := by unfold o_save; rw [if_neg (fun z => z ⟨0, by decide, rfl⟩)]
theorem u_undo {X : SX} (hz : ¬ (xH X).1 = 0) : (o_undo X).1 = nI ((xH X).1 - 1) := by unfold o_undo; rw [if_neg hz]
theorem u_undo0 {X : SX} (hz : (xH X).1 = 0) : o_undo X = (-5, X) := by unfold o_undo; rw [if_pos hz]
theorem INV_save {X : SX} (h : wfO X) (ha : asT (sT (xS X))) (h1 : xL X 1 = none) : INV (o_save X (nI 0)).2 (dgS (xS X)) := by
  have e := u_save (X := X)
  have t0 : tn (nI 0) = 0 := tn_nI (show 0 < 2 ^ 31 by decide)
  have e0 : xS (o_save X (nI 0)).2 = xS X := by rw [e]
  have e1 : xL (o_save X (nI 0)).2 0 = some (xS X) := by
    rw [e]
    show (if 0 = tn (nI 0) then some (xS X) else xL X 0) = some (xS X)
    rw [t0, if_pos rfl]
  have e2 : xL (o_save X (nI 0)).2 1 = none := by
    rw [e]
    show (if 1 = tn (nI 0) then some (xS X) else xL X 1) = none
    rw [t0, if_neg (by decide)]
    exact h1
  exact ⟨w_o_save h, by rw [e0]; exact ha, ⟨xS X, e1, ha, rfl⟩, e2⟩
theorem k_undo (l : Launch) (G : GG) (h : Nat) (w : va_W) (X : SX) (hRX : RX G h w X) (hz : ¬ (xH X).1 = 0) : MT l G yX8_undo cX8_undo 1 (some .int) 5 0 0 [.ref h] ((w)) (fun v9 ws9 => ∃ (w2 : va_W), v9 = some (.int (nI ((xH X).1 - 1))) ∧ ws9 = ((w2)) ∧ RX G h w2 (o_undo X).2) := (c_X8_undo l G h w X hRX).imp (fun v w ⟨w2, a, b, c⟩ => ⟨w2, a.trans (congrArg (fun z => some (Value.int z)) (u_undo hz)), b, c⟩)
theorem k_undo0 (l : Launch) (G : GG) (h : Nat) (w : va_W) (X : SX) (hRX : RX G h w X) (hz : (xH X).1 = 0) : MT l G yX8_undo cX8_undo 1 (some .int) 5 0 0 [.ref h] ((w)) (fun v9 ws9 => ∃ (w2 : va_W), v9 = some (.int (-5)) ∧ ws9 = ((w2)) ∧ RX G h w2 X) := (c_X8_undo l G h w X hRX).imp (fun v w ⟨w2, a, b, c⟩ => ⟨w2, a.trans (congrArg (fun z => some (Value.int z)) (congrArg Prod.fst (u_undo0 hz))), b, by rw [u_undo0 hz] at c; exact c⟩)
theorem k_rest1 (l : Launch) (G : GG) (h : Nat) (w : va_W) (X : SX) (hRX : RX G h w X) (hl : xL X 1 = none) : MT l G yX8_restore cX8_restore 3 (some .int) 5 10 813 [.ref h, .int (nI 1)] ((w)) (fun v9 ws9 => ∃ (w2 : va_W), v9 = some (.int (-5)) ∧ ws9 = ((w2)) ∧ RX G h w2 X) := (c_X8_restore l G h w X (nI 1) hRX).imp (fun v w ⟨w2, a, b, c⟩ => ⟨w2, a.trans (congrArg (fun z => some (Value.int z)) (congrArg Prod.fst (u_rest1 hl))), b, by rw [u_rest1 hl] at c; exact c⟩)
theorem k_rest0 (l : Launch) (G : GG) (h : Nat) (w : va_W) (X : SX) (σ : SG) (hRX : RX G h w X) (hl : xL X 0 = some σ) : MT l G yX8_restore cX8_restore 3 (some .int) 5 10 813 [.ref h, .int (nI 0)] ((w)) (fun v9 ws9 => ∃ (w2 : va_W), v9 = some (.int (nI (allT (sT σ)))) ∧ ws9 = ((w2)) ∧ RX G h w2 (o_restore X (nI 0)).2) := (c_X8_restore l G h w X (nI 0) hRX).imp (fun v w ⟨w2, a, b, c⟩ => ⟨w2, a.trans (congrArg (fun z => some (Value.int z)) (congrArg Prod.fst (u_rest0 hl))), b, c⟩)
theorem k_save0 (l : Launch) (G : GG) (h : Nat) (w : va_W) (X : SX) (hRX : RX G h w X) (hs0 : allT (sT (xS X)) = 0) : MT l G yX8_save cX8_save 3 (some .int) 4 10 813 [.ref h, .int (nI 0)] ((w)) (fun v9 ws9 => ∃ (w2 : va_W), v9 = some (.int (nI 0)) ∧ ws9 = ((w2)) ∧ RX G h w2 (o_save X (nI 0)).2) := (c_X8_save l G h w X (nI 0) hRX).imp (fun v w ⟨w2, a, b, c⟩ => ⟨w2, a.trans (congrArg (fun z => some (Value.int z)) ((congrArg Prod.fst u_save).trans (congrArg nI hs0))), b, c⟩)
theorem k_save (l : Launch) (G : GG) (h : Nat) (w : va_W) (X : SX) (hRX : RX G h w X) : MT l G yX8_save cX8_save 3 (some .int) 4 10 813 [.ref h, .int (nI 0)] ((w)) (fun v9 ws9 => ∃ (w2 : va_W), v9 = some (.int ((o_save X (nI 0)).1)) ∧ ws9 = ((w2)) ∧ RX G h w2 (o_save X (nI 0)).2) := (c_X8_save l G h w X (nI 0) hRX).imp (fun v w ⟨w2, a, b, c⟩ => ⟨w2, a.trans (congrArg (fun z => some (Value.int z)) (rfl)), b, c⟩)
set_option maxHeartbeats 4000000 in
set_option maxRecDepth 100000 in
theorem seg455 {κ : KX} (C : CT κ cL_law RL 20 room_1) {b h t : Nat} {X : SX} {w1 : va_W} {v : Int32} {bh sv : Int64} (ht : t < 32) (hI : INV X sv) (hbh : bh = dgS (xS X)) (hR : RX (kG κ) h w1 X) {c n c9 n9 : Nat} (hc : c + 10 ≤ c9) (hn : n + 813 ≤ n9) (hc9 : c9 ≤ 600000) (hn9 : n9 ≤ 7302250) (k : ∀ (X2 : SX) (w2 : va_W) (s2 : Int64), INV X2 s2 → RX (kG κ) h w2 X2 → WW κ c9 n9 ((w2)) 45 [(4, .int (nI (t + 1))), (2, .long s2), (1, .ref h), (0, .ref b)] []) : WW κ c n ((w1)) 455 [(5, .int v), (11, .long bh), (4, .int (nI t)), (2, .long sv), (1, .ref h), (0, .ref b)] [] := by
  refine w_iload (nx := 457) C 0 dL_law_455 rfl rfl ?_
  refine w_bipush (nx := 459) C (nI 9) dL_law_457 rfl (by decide) ?_
  refine w_ishr (nx := 460) C (v >>> ((nI 9) &&& 31)) dL_law_459 rfl rfl ?_
  refine w_bipush (nx := 462) C (nI 7) dL_law_460 rfl (by decide) ?_
  refine w_iand (nx := 463) C ((v >>> ((nI 9) &&& 31)) &&& (nI 7)) dL_law_462 rfl rfl ?_
  refine w_if_ne (tg := 475) (nx := 466) C dL_law_463 rfl rfl (fun h_1 => ?_) (fun h_1 => ?_)
  · refine w_iinc (nx := 478) (lo2 := [(4, .int (nI (t + 1))), (5, .int v), (11, .long bh), (2, .long sv), (1, .ref h), (0, .ref b)]) C (nI (t + 1)) 2 dL_law_475 rfl rfl (nI_add _ _) (by decide) rfl ?_
    refine w_goto (nx := 45) C dL_law_478 rfl ?_
    refine ww_lo [0, 3, 4, 5] (lo' := [(4, .int (nI (t + 1))), (2, .long sv), (1, .ref h), (0, .ref b)]) rfl ?_
    exact ww_wide (by omega) (by omega) (k X w1 sv hI (by assumption))
  · refine w_aload_n (nx := 467) C 4 dL_law_466 rfl rfl rfl ?_
    refine w_iconst (nx := 468) C (nI 0) dL_law_467 rfl (by decide) ?_
    obtain ⟨_, hv_3⟩ := RX_recv (G := kG κ) (h := h) (w := w1) (X := X) (by assumption)
    refine w_callV (nx := 471) (wr := []) (rest := []) (ci := 8) C mi_X8_save (k_save _ _ h w1 X (by first | assumption | omega)) 0 dL_law_468 rfl wl_L_62 rfl rfl hv_3 (pm_blkc [w1] [0] [] 1 (by decide +kernel) rfl rfl rfl rfl) rfl rfl (Nat.le_of_ble_eq_true rfl) (Nat.le_of_ble_eq_true rfl) (Nat.le_of_ble_eq_true rfl) (rc_c (by omega)) (rc_s (by omega)) (fun v9 w2_4 R_2 => ?_)
    obtain ⟨w9, rfl, rfl, hR2_5⟩ := R_2
    refine ww_perm (pm_blkj [w2_4] [] [0] 1 (by decide +kernel) rfl rfl rfl rfl) ?_
    show WW κ (c + 10) (n + 813) ((w2_4)) 471 [(5, .int v), (11, .long bh), (4, .int (nI t)), (2, .long sv), (1, .ref h), (0, .ref b)] [.int ((o_save X (nI 0)).1)]
    refine w_pop (nx := 472) C dL_law_471 rfl rfl ?_
    refine w_lload (nx := 474) C 1 dL_law_472 rfl rfl ?_
    refine w_lstore_n (nx := 475) (lo2 := [(2, .long bh), (5, .int v), (11, .long bh), (4, .int (nI t)), (1, .ref h), (0, .ref b)]) C dL_law_474 rfl rfl (by decide) rfl ?_
    refine w_iinc (nx := 478) (lo2 := [(4, .int (nI (t + 1))), (2, .long bh), (5, .int v), (11, .long bh), (1, .ref h), (0, .ref b)]) C (nI (t + 1)) 3 dL_law_475 rfl rfl (nI_add _ _) (by decide) rfl ?_
    refine w_goto (nx := 45) C dL_law_478 rfl ?_
    refine ww_lo [0, 1, 4, 5] (lo' := [(4, .int (nI (t + 1))), (2, .long bh), (1, .ref h), (0, .ref b)]) rfl ?_
    exact ww_wide (by omega) (by omega) (k (o_save X (nI 0)).2 w2_4 bh (hbh ▸ INV_save hI.1 hI.2.1 hI.2.2.2) (by assumption))
set_option maxHeartbeats 4000000 in
set_option maxRecDepth 100000 in
theorem seg279A {κ : KX} (C : CT κ cL_law RL 20 room_1) {b h t : Nat} {X : SX} {w1 : va_W} {v : Int32} {bh sv : Int64} {kd tb ky : Nat} (ht : t < 32) (hI : INV X sv) (hbh : bh = dgS (xS X)) (hR : RX (kG κ) h w1 X) (hkd : kd < 3) (htb : tb < 4) (hky : ky < 100) (hok : rsn (rn5 (xS X) kd tb ky) = 0) {c n c9 n9 : Nat} (hc : c + 10 ≤ c9) (hn : n + 813 ≤ n9) (hc9 : c9 ≤ 600000) (hn9 : n9 ≤ 7302250) (k : ∀ (X2 : SX) (w2 : va_W) (s2 : Int64), INV X2 s2 → RX (kG κ) h w2 X2 → WW κ c9 n9 ((w2)) 45 [(4, .int (nI (t + 1))), (2, .long s2), (1, .ref h), (0, .ref b)] []) : WW κ c n ((w1)) 279 [(13, .int (nI kd)), (14, .int (nI tb)), (15, .int (nI ky)), (5, .int v), (11, .long bh), (4, .int (nI t)), (2, .long sv), (1, .ref h), (0, .ref b)] [] := by
  obtain ⟨hP, hjb, hB, hn6, hJL⟩ := v_is (X := X) (kd := kd) hI.1 hI.2.1 htb hky
  have hd8 := hI.1.1.1
  obtain ⟨hj0, hje⟩ := hjb hok
  refine w_aload_n (nx := 280) C 7 dL_law_279 rfl rfl rfl ?_
  refine w_iload (nx := 282) C 0 dL_law_280 rfl rfl ?_
  refine w_iload (nx := 284) C 1 dL_law_282 rfl rfl ?_
  refine w_iload (nx := 286) C 2 dL_law_284 rfl rfl ?_
  refine w_iconst (nx := 287) C (nI 5) dL_law_286 rfl (by decide) ?_
  refine w_iconst (nx := 288) C (nI 0) dL_law_287 rfl (by decide) ?_
  obtain ⟨_, hv_2⟩ := RX_recv (G := kG κ) (h := h) (w := w1) (X := X) (by assumption)
  refine w_callV (nx := 291) (wr := []) (rest := []) (ci := 8) C mi_X8_tried (k_tr0A _ _ h w1 X kd tb ky (by first | assumption | omega) (by first | assumption | omega) (by first | assumption | omega) (by first | assumption | omega) (by first | assumption | omega)) 0 dL_law_288 rfl wl_L_77 rfl rfl hv_2 (pm_blkc [w1] [0] [] 1 (by decide +kernel) rfl rfl rfl rfl) rfl rfl (Nat.le_of_ble_eq_true rfl) (Nat.le_of_ble_eq_true rfl) (Nat.le_of_ble_eq_true rfl) (rc_c (by omega)) (rc_s (by omega)) (fun v9 w2_3 R_1 => ?_)
  obtain ⟨w9, rfl, rfl, hR2_4⟩ := R_1
  refine ww_perm (pm_blkj [w2_3] [] [0] 1 (by decide +kernel) rfl rfl rfl rfl) ?_
  show WW κ c n ((w2_3)) 291 [(13, .int (nI kd)), (14, .int (nI tb)), (15, .int (nI ky)), (5, .int v), (11, .long bh), (4, .int (nI t)), (2, .long sv), (1, .ref h), (0, .ref b)] [.int (nI 0)]
  refine w_istore (nx := 293) (lo2 := [(16, .int (nI 0)), (13, .int (nI kd)), (14, .int (nI tb)), (15, .int (nI ky)), (5, .int v), (11, .long bh), (4, .int (nI t)), (2, .long sv), (1, .ref h), (0, .ref b)]) C dL_law_291 rfl (by decide) rfl ?_
  refine w_aload_n (nx := 294) C 8 dL_law_293 rfl rfl rfl ?_
  refine w_iload (nx := 296) C 1 dL_law_294 rfl rfl ?_
  refine w_iload (nx := 298) C 2 dL_law_296 rfl rfl ?_
  refine w_iload (nx := 300) C 3 dL_law_298 rfl rfl ?_
  refine w_iconst (nx := 301) C (nI 5) dL_law_300 rfl (by decide) ?_
  refine w_iconst (nx := 302) C (nI 1) dL_law_301 rfl (by decide) ?_
  obtain ⟨_, hv_6⟩ := RX_recv (G := kG κ) (h := h) (w := w2_3) (X := X) (by assumption)
  refine w_callV (nx := 305) (wr := []) (rest := []) (ci := 8) C mi_X8_tried (k_tr1A _ _ h w2_3 X kd tb ky (by first | assumption | omega) (by first | assumption | omega) (by first | assumption | omega) (by first | assumption | omega) (by first | assumption | omega)) 0 dL_law_302 rfl wl_L_77 rfl rfl hv_6 (pm_blkc [w2_3] [0] [] 1 (by decide +kernel) rfl rfl rfl rfl) rfl rfl (Nat.le_of_ble_eq_true rfl) (Nat.le_of_ble_eq_true rfl) (Nat.le_of_ble_eq_true rfl) (rc_c (by omega)) (rc_s (by omega)) (fun v9 w2_7 R_5 => ?_)
  obtain ⟨w9, rfl, rfl, hR2_8⟩ := R_5
  refine ww_perm (pm_blkj [w2_7] [] [0] 1 (by decide +kernel) rfl rfl rfl rfl) ?_
  show WW κ c n ((w2_7)) 305 [(16, .int (nI 0)), (13, .int (nI kd)), (14, .int (nI tb)), (15, .int (nI ky)), (5, .int v), (11, .long bh), (4, .int (nI t)), (2, .long sv), (1, .ref h), (0, .ref b)] [.int (nI ((rsJ (rn5 (xS X) kd tb ky)).1))]
  refine w_istore (nx := 307) (lo2 := [(17, .int (nI ((rsJ (rn5 (xS X) kd tb ky)).1))), (16, .int (nI 0)), (13, .int (nI kd)), (14, .int (nI tb)), (15, .int (nI ky)), (5, .int v), (11, .long bh), (4, .int (nI t)), (2, .long sv), (1, .ref h), (0, .ref b)]) C dL_law_305 rfl (by decide) rfl ?_
  refine w_aload_n (nx := 308) C 9 dL_law_307 rfl rfl rfl ?_
  refine w_iload (nx := 310) C 2 dL_law_308 rfl rfl ?_
  refine w_iload (nx := 312) C 3 dL_law_310 rfl rfl ?_
  refine w_iload (nx := 314) C 4 dL_law_312 rfl rfl ?_
  refine w_iconst (nx := 315) C (nI 5) dL_law_314 rfl (by decide) ?_
  refine w_iconst (nx := 316) C (nI 4) dL_law_315 rfl (by decide) ?_
  obtain ⟨_, hv_10⟩ := RX_recv (G := kG κ) (h := h) (w := w2_7) (X := X) (by assumption)
  refine w_callV (nx := 319) (wr := []) (rest := []) (ci := 8) C mi_X8_tried (k_tr4 _ _ h w2_7 X kd tb ky (by first | assumption | omega) (by first | assumption | omega) (by first | assumption | omega) (by first | assumption | omega)) 0 dL_law_316 rfl wl_L_77 rfl rfl hv_10 (pm_blkc [w2_7] [0] [] 1 (by decide +kernel) rfl rfl rfl rfl) rfl rfl (Nat.le_of_ble_eq_true rfl) (Nat.le_of_ble_eq_true rfl) (Nat.le_of_ble_eq_true rfl) (rc_c (by omega)) (rc_s (by omega)) (fun v9 w2_11 R_9 => ?_)
  obtain ⟨w9, rfl, rfl, hR2_12⟩ := R_9
  refine ww_perm (pm_blkj [w2_11] [] [0] 1 (by decide +kernel) rfl rfl rfl rfl) ?_
  show WW κ c n ((w2_11)) 319 [(17, .int (nI ((rsJ (rn5 (xS X) kd tb ky)).1))), (16, .int (nI 0)), (13, .int (nI kd)), (14, .int (nI tb)), (15, .int (nI ky)), (5, .int v), (11, .long bh), (4, .int (nI t)), (2, .long sv), (1, .ref h), (0, .ref b)] [.int (nI (rsP (rn5 (xS X) kd tb ky)))]
  refine w_istore (nx := 321) (lo2 := [(18, .int (nI (rsP (rn5 (xS X) kd tb ky)))), (17, .int (nI ((rsJ (rn5 (xS X) kd tb ky)).1))), (16, .int (nI 0)), (13, .int (nI kd)), (14, .int (nI tb)), (15, .int (nI ky)), (5, .int v), (11, .long bh), (4, .int (nI t)), (2, .long sv), (1, .ref h), (0, .ref b)]) C dL_law_319 rfl (by decide) rfl ?_
  refine w_iload (nx := 323) C 2 dL_law_321 rfl rfl ?_
  refine w_if_ne (tg := 369) (nx := 326) C dL_law_323 rfl rfl (fun q9 => absurd (by decide) q9) (fun _ => ?_)
  refine w_iload (nx := 328) C 1 dL_law_326 rfl rfl ?_
  refine n_if_le (tg := 365) (nx := 331) C dL_law_328 rfl rfl (by omega) (fun h_14 => ?_) (fun h_14 => ?_)
  · exact absurd h_14 (by omega)
  · refine w_iload (nx := 333) C 1 dL_law_331 rfl rfl ?_
    refine w_aload_n (nx := 334) C 10 dL_law_333 rfl rfl rfl ?_
    refine w_iload (nx := 336) C 3 dL_law_334 rfl rfl ?_
    refine w_iload (nx := 338) C 4 dL_law_336 rfl rfl ?_
    refine w_iload (nx := 340) C 5 dL_law_338 rfl rfl ?_
    refine w_iconst (nx := 341) C (nI 5) dL_law_340 rfl (by decide) ?_
    refine w_iconst (nx := 342) C (nI 3) dL_law_341 rfl (by decide) ?_
    obtain ⟨_, hv_16⟩ := RX_recv (G := kG κ) (h := h) (w := w2_11) (X := X) (by assumption)
    refine w_callV (nx := 345) (wr := []) (rest := [.int (nI ((rsJ (rn5 (xS X) kd tb ky)).1))]) (ci := 8) C mi_X8_tried (k_tr3 _ _ h w2_11 X kd tb ky (by first | assumption | omega) (by first | assumption | omega) (by first | assumption | omega) (by first | assumption | omega)) 0 dL_law_342 rfl wl_L_77 rfl rfl hv_16 (pm_blkc [w2_11] [0] [] 1 (by decide +kernel) rfl rfl rfl rfl) rfl rfl (Nat.le_of_ble_eq_true rfl) (Nat.le_of_ble_eq_true rfl) (Nat.le_of_ble_eq_true rfl) (rc_c (by omega)) (rc_s (by omega)) (fun v9 w2_17 R_15 => ?_)
    obtain ⟨w9, rfl, rfl, hR2_18⟩ := R_15
    refine ww_perm (pm_blkj [w2_17] [] [0] 1 (by decide +kernel) rfl rfl rfl rfl) ?_
    show WW κ c n ((w2_17)) 345 [(18, .int (nI (rsP (rn5 (xS X) kd tb ky)))), (17, .int (nI ((rsJ (rn5 (xS X) kd tb ky)).1))), (16, .int (nI 0)), (13, .int (nI kd)), (14, .int (nI tb)), (15, .int (nI ky)), (5, .int v), (11, .long bh), (4, .int (nI t)), (2, .long sv), (1, .ref h), (0, .ref b)] [.int (nI (rsL (rn5 (xS X) kd tb ky))), .int (nI ((rsJ (rn5 (xS X) kd tb ky)).1))]
    refine w_iadd (nx := 346) C (nI ((rsJ (rn5 (xS X) kd tb ky)).1 + rsL (rn5 (xS X) kd tb ky))) dL_law_345 rfl (nI_add _ _) ?_
    refine w_aload_n (nx := 347) C 10 dL_law_346 rfl rfl rfl ?_
    refine w_iload (nx := 349) C 3 dL_law_347 rfl rfl ?_
    refine w_iload (nx := 351) C 4 dL_law_349 rfl rfl ?_
    refine w_iload (nx := 353) C 5 dL_law_351 rfl rfl ?_
    refine w_iconst (nx := 354) C (nI 5) dL_law_353 rfl (by decide) ?_
    refine w_iconst (nx := 355) C (nI 2) dL_law_354 rfl (by decide) ?_
    obtain ⟨_, hv_20⟩ := RX_recv (G := kG κ) (h := h) (w := w2_17) (X := X) (by assumption)
    refine w_callV (nx := 358) (wr := []) (rest := [.int (nI ((rsJ (rn5 (xS X) kd tb ky)).1 + rsL (rn5 (xS X) kd tb ky)))]) (ci := 8) C mi_X8_tried (k_tr2 _ _ h w2_17 X kd tb ky (by first | assumption | omega) (by first | assumption | omega) (by first | assumption | omega) (by first | assumption | omega)) 0 dL_law_355 rfl wl_L_77 rfl rfl hv_20 (pm_blkc [w2_17] [0] [] 1 (by decide +kernel) rfl rfl rfl rfl) rfl rfl (Nat.le_of_ble_eq_true rfl) (Nat.le_of_ble_eq_true rfl) (Nat.le_of_ble_eq_true rfl) (rc_c (by omega)) (rc_s (by omega)) (fun v9 w2_21 R_19 => ?_)
    obtain ⟨w9, rfl, rfl, hR2_22⟩ := R_19
    refine ww_perm (pm_blkj [w2_21] [] [0] 1 (by decide +kernel) rfl rfl rfl rfl) ?_
    show WW κ c n ((w2_21)) 358 [(18, .int (nI (rsP (rn5 (xS X) kd tb ky)))), (17, .int (nI ((rsJ (rn5 (xS X) kd tb ky)).1))), (16, .int (nI 0)), (13, .int (nI kd)), (14, .int (nI tb)), (15, .int (nI ky)), (5, .int v), (11, .long bh), (4, .int (nI t)), (2, .long sv), (1, .ref h), (0, .ref b)] [.int (nI (rsB (rn5 (xS X) kd tb ky))), .int (nI ((rsJ (rn5 (xS X) kd tb ky)).1 + rsL (rn5 (xS X) kd tb ky)))]
    refine n_icmp_ne (tg := 365) (nx := 361) C dL_law_358 rfl rfl (by omega) (by omega) (fun h_23 => ?_) (fun h_23 => ?_)
    · exact absurd hje h_23
    · refine w_iconst (nx := 362) C (nI 1) dL_law_361 rfl (by decide) ?_
      refine w_goto (nx := 379) C dL_law_362 rfl ?_
      refine w_istore (nx := 381) (lo2 := [(19, .int (nI 1)), (18, .int (nI (rsP (rn5 (xS X) kd tb ky)))), (17, .int (nI ((rsJ (rn5 (xS X) kd tb ky)).1))), (16, .int (nI 0)), (13, .int (nI kd)), (14, .int (nI tb)), (15, .int (nI ky)), (5, .int v), (11, .long bh), (4, .int (nI t)), (2, .long sv), (1, .ref h), (0, .ref b)]) C dL_law_379 rfl (by decide) rfl ?_
      refine w_iload (nx := 383) C 0 dL_law_381 rfl rfl ?_
      refine w_if_eq (tg := 453) (nx := 386) C dL_law_383 rfl rfl (fun q9 => absurd q9 (by decide)) (fun _ => ?_)
      refine w_iload (nx := 388) C 1 dL_law_386 rfl rfl ?_
      refine n_if_lt (tg := 453) (nx := 391) C dL_law_388 rfl rfl (by omega) ?_
      refine w_iload (nx := 393) C 1 dL_law_391 rfl rfl ?_
      refine w_aload_n (nx := 394) C 11 dL_law_393 rfl rfl rfl ?_
      refine w_bipush (nx := 396) C (nI 7) dL_law_394 rfl (by decide) ?_
      obtain ⟨_, hv_27⟩ := RX_recv (G := kG κ) (h := h) (w := w2_21) (X := X) (by assumption)
      refine w_callV (nx := 399) (wr := []) (rest := [.int (nI (rsP (rn5 (xS X) kd tb ky)))]) (ci := 8) C mi_X8_count (k_cnt7 _ _ h w2_21 X (by first | assumption | omega)) 0 dL_law_396 rfl wl_L_12 rfl rfl hv_27 (pm_blkc [w2_21] [0] [] 1 (by decide +kernel) rfl rfl rfl rfl) rfl rfl (Nat.le_of_ble_eq_true rfl) (Nat.le_of_ble_eq_true rfl) (Nat.le_of_ble_eq_true rfl) (rc_c (by omega)) (rc_s (by omega)) (fun v9 w2_28 R_26 => ?_)
      obtain ⟨w9, rfl, rfl, hR2_29⟩ := R_26
      refine ww_perm (pm_blkj [w2_28] [] [0] 1 (by decide +kernel) rfl rfl rfl rfl) ?_
      show WW κ c n ((w2_28)) 399 [(19, .int (nI 1)), (18, .int (nI (rsP (rn5 (xS X) kd tb ky)))), (17, .int (nI ((rsJ (rn5 (xS X) kd tb ky)).1))), (16, .int (nI 0)), (13, .int (nI kd)), (14, .int (nI tb)), (15, .int (nI ky)), (5, .int v), (11, .long bh), (4, .int (nI t)), (2, .long sv), (1, .ref h), (0, .ref b)] [.int (nI (sD (xS X))), .int (nI (rsP (rn5 (xS X) kd tb ky)))]
      refine n_icmp_gt (tg := 453) (nx := 402) C dL_law_399 rfl rfl (by omega) (by omega) (fun h_30 => ?_) (fun h_30 => ?_)
      · exact absurd h_30 (by omega)
      · refine w_aload_n (nx := 403) C 11 dL_law_402 rfl rfl rfl ?_
        refine w_iload (nx := 405) C 4 dL_law_403 rfl rfl ?_
        refine w_iload (nx := 407) C 5 dL_law_405 rfl rfl ?_
        refine w_iload (nx := 409) C 6 dL_law_407 rfl rfl ?_
        refine w_iconst (nx := 410) C (nI 5) dL_law_409 rfl (by decide) ?_
        obtain ⟨_, hv_32⟩ := RX_recv (G := kG κ) (h := h) (w := w2_28) (X := X) (by assumption)
        refine w_callV (nx := 413) (wr := []) (rest := []) (ci := 8) C mi_X8_culprits (k_culA _ _ h w2_28 X kd tb ky (by first | assumption | omega) (by first | assumption | omega) (by first | assumption | omega) (by first | assumption | omega) (by first | assumption | omega)) 0 dL_law_410 rfl wl_L_80 rfl rfl hv_32 (pm_blkc [w2_28] [0] [] 1 (by decide +kernel) rfl rfl rfl rfl) rfl rfl (Nat.le_of_ble_eq_true rfl) (Nat.le_of_ble_eq_true rfl) (Nat.le_of_ble_eq_true rfl) (rc_c (by omega)) (rc_s (by omega)) (fun v9 w2_33 R_31 => ?_)
        obtain ⟨w9, rfl, rfl, hR2_34⟩ := R_31
        refine ww_perm (pm_blkj [w2_33] [] [0] 1 (by decide +kernel) rfl rfl rfl rfl) ?_
        show WW κ c n ((w2_33)) 413 [(19, .int (nI 1)), (18, .int (nI (rsP (rn5 (xS X) kd tb ky)))), (17, .int (nI ((rsJ (rn5 (xS X) kd tb ky)).1))), (16, .int (nI 0)), (13, .int (nI kd)), (14, .int (nI tb)), (15, .int (nI ky)), (5, .int v), (11, .long bh), (4, .int (nI t)), (2, .long sv), (1, .ref h), (0, .ref b)] [.int (-6)]
        refine w_bipush (nx := 415) C (-6) dL_law_413 rfl (by decide) ?_
        refine w_icmp_ne (tg := 422) (nx := 418) C dL_law_415 rfl rfl (fun q9 => absurd (by decide) q9) (fun _ => ?_)
        refine w_iconst (nx := 419) C (nI 1) dL_law_418 rfl (by decide) ?_
        refine w_goto (nx := 423) C dL_law_419 rfl ?_
        refine w_iload (nx := 425) C 3 dL_law_423 rfl rfl ?_
        refine w_if_ne (tg := 432) (nx := 428) C dL_law_425 rfl rfl (fun q9 => absurd (by decide) q9) (fun _ => ?_)
        refine w_iconst (nx := 429) C (nI 1) dL_law_428 rfl (by decide) ?_
        refine w_goto (nx := 433) C dL_law_429 rfl ?_
        refine n_icmp_ne (tg := 453) (nx := 436) C dL_law_433 rfl rfl (by decide) (by decide) (fun q9 => absurd (by decide) q9) (fun _ => ?_)
        refine w_aload_n (nx := 437) C 11 dL_law_436 rfl rfl rfl ?_
        refine w_callS (nx := 440) (wr := []) (rest := []) C ms_L_holds (c_L_holds _ _ h w2_33 X (by first | assumption | omega) (hI.2.1)) dL_law_437 rfl wl_L_83 rfl (pm_blkc [w2_33] [0] [] 1 (by decide +kernel) rfl rfl rfl rfl) rfl rfl (Nat.le_of_ble_eq_true rfl) (Nat.le_of_ble_eq_true rfl) (Nat.le_of_ble_eq_true rfl) (rc_c (by omega)) (rc_s (by omega)) (fun v9 w2_39 R_38 => ?_)
        obtain ⟨w9, rfl, rfl, hR2_40⟩ := R_38
        refine ww_perm (pm_blkj [w2_39] [] [0] 1 (by decide +kernel) rfl rfl rfl rfl) ?_
        show WW κ c n ((w2_39)) 440 [(19, .int (nI 1)), (18, .int (nI (rsP (rn5 (xS X) kd tb ky)))), (17, .int (nI ((rsJ (rn5 (xS X) kd tb ky)).1))), (16, .int (nI 0)), (13, .int (nI kd)), (14, .int (nI tb)), (15, .int (nI ky)), (5, .int v), (11, .long bh), (4, .int (nI t)), (2, .long sv), (1, .ref h), (0, .ref b)] [.int (nI 1)]
        refine w_if_eq (tg := 453) (nx := 443) C dL_law_440 rfl rfl (fun q9 => absurd q9 (by decide)) (fun _ => ?_)
        refine w_aload_n (nx := 444) C 11 dL_law_443 rfl rfl rfl ?_
        refine w_callS (nx := 447) (wr := []) (rest := []) C ms_L_digest (c_L_digest _ _ h w2_39 X (by first | assumption | omega)) dL_law_444 rfl wl_L_65 rfl (pm_blkc [w2_39] [0] [] 1 (by decide +kernel) rfl rfl rfl rfl) rfl rfl (Nat.le_of_ble_eq_true rfl) (Nat.le_of_ble_eq_true rfl) (Nat.le_of_ble_eq_true rfl) (rc_c (by omega)) (rc_s (by omega)) (fun v9 w2_43 R_42 => ?_)
        obtain ⟨w9, rfl, rfl, hR2_44⟩ := R_42
        refine ww_perm (pm_blkj [w2_43] [] [0] 1 (by decide +kernel) rfl rfl rfl rfl) ?_
        show WW κ c n ((w2_43)) 447 [(19, .int (nI 1)), (18, .int (nI (rsP (rn5 (xS X) kd tb ky)))), (17, .int (nI ((rsJ (rn5 (xS X) kd tb ky)).1))), (16, .int (nI 0)), (13, .int (nI kd)), (14, .int (nI tb)), (15, .int (nI ky)), (5, .int v), (11, .long bh), (4, .int (nI t)), (2, .long sv), (1, .ref h), (0, .ref b)] [.long (dgS (xS X))]
        refine w_lload (nx := 449) C 8 dL_law_447 rfl rfl ?_
        refine w_lcmp (nx := 450) C (lg_cmp (dgS (xS X)) bh) dL_law_449 rfl rfl ?_
        refine w_if_eq (tg := 455) (nx := 453) C dL_law_450 rfl rfl (fun _ => ?_) (fun q9 => absurd ((lg_cmp_eq _ _).mpr hbh.symm) q9)
        refine ww_lo [7, 8, 9, 10, 11, 12] (lo' := [(5, .int v), (11, .long bh), (4, .int (nI t)), (2, .long sv), (1, .ref h), (0, .ref b)]) rfl ?_
        exact seg455 C (X := X) (w1 := w2_43) ht hI hbh (by assumption) hc hn hc9 hn9 k
set_option maxHeartbeats 4000000 in
set_option maxRecDepth 100000 in
theorem seg279B {κ : KX} (C : CT κ cL_law RL 20 room_1) {b h t : Nat} {X : SX} {w1 : va_W} {v : Int32} {bh sv : Int64} {kd tb ky : Nat} (ht : t < 32) (hI : INV X sv) (hbh : bh = dgS (xS X)) (hR : RX (kG κ) h w1 X) (hkd : kd < 3) (htb : tb < 4) (hky : ky < 100) (hno : ¬ rsn (rn5 (xS X) kd tb ky) = 0) {c n c9 n9 : Nat} (hc : c + 10 ≤ c9) (hn : n + 813 ≤ n9) (hc9 : c9 ≤ 600000) (hn9 : n9 ≤ 7302250) (k : ∀ (X2 : SX) (w2 : va_W) (s2 : Int64), INV X2 s2 → RX (kG κ) h w2 X2 → WW κ c9 n9 ((w2)) 45 [(4, .int (nI (t + 1))), (2, .long s2), (1, .ref h), (0, .ref b)] []) : WW κ c n ((w1)) 279 [(13, .int (nI kd)), (14, .int (nI tb)), (15, .int (nI ky)), (5, .int v), (11, .long bh), (4, .int (nI t)), (2, .long sv), (1, .ref h), (0, .ref b)] [] := by
  obtain ⟨hP, hjb, hB, hn6, hJL⟩ := v_is (X := X) (kd := kd) hI.1 hI.2.1 htb hky
  have hd8 := hI.1.1.1
  refine w_aload_n (nx := 280) C 7 dL_law_279 rfl rfl rfl ?_
  refine w_iload (nx := 282) C 0 dL_law_280 rfl rfl ?_
  refine w_iload (nx := 284) C 1 dL_law_282 rfl rfl ?_
  refine w_iload (nx := 286) C 2 dL_law_284 rfl rfl ?_
  refine w_iconst (nx := 287) C (nI 5) dL_law_286 rfl (by decide) ?_
  refine w_iconst (nx := 288) C (nI 0) dL_law_287 rfl (by decide) ?_
  obtain ⟨_, hv_2⟩ := RX_recv (G := kG κ) (h := h) (w := w1) (X := X) (by assumption)
  refine w_callV (nx := 291) (wr := []) (rest := []) (ci := 8) C mi_X8_tried (k_tr0B _ _ h w1 X kd tb ky (by first | assumption | omega) (by first | assumption | omega) (by first | assumption | omega) (by first | assumption | omega) (by first | assumption | omega)) 0 dL_law_288 rfl wl_L_77 rfl rfl hv_2 (pm_blkc [w1] [0] [] 1 (by decide +kernel) rfl rfl rfl rfl) rfl rfl (Nat.le_of_ble_eq_true rfl) (Nat.le_of_ble_eq_true rfl) (Nat.le_of_ble_eq_true rfl) (rc_c (by omega)) (rc_s (by omega)) (fun v9 w2_3 R_1 => ?_)
  obtain ⟨w9, rfl, rfl, hR2_4⟩ := R_1
  refine ww_perm (pm_blkj [w2_3] [] [0] 1 (by decide +kernel) rfl rfl rfl rfl) ?_
  show WW κ c n ((w2_3)) 291 [(13, .int (nI kd)), (14, .int (nI tb)), (15, .int (nI ky)), (5, .int v), (11, .long bh), (4, .int (nI t)), (2, .long sv), (1, .ref h), (0, .ref b)] [.int (nI (rsn (rn5 (xS X) kd tb ky)))]
  refine w_istore (nx := 293) (lo2 := [(16, .int (nI (rsn (rn5 (xS X) kd tb ky)))), (13, .int (nI kd)), (14, .int (nI tb)), (15, .int (nI ky)), (5, .int v), (11, .long bh), (4, .int (nI t)), (2, .long sv), (1, .ref h), (0, .ref b)]) C dL_law_291 rfl (by decide) rfl ?_
  refine w_aload_n (nx := 294) C 8 dL_law_293 rfl rfl rfl ?_
  refine w_iload (nx := 296) C 1 dL_law_294 rfl rfl ?_
  refine w_iload (nx := 298) C 2 dL_law_296 rfl rfl ?_
  refine w_iload (nx := 300) C 3 dL_law_298 rfl rfl ?_
  refine w_iconst (nx := 301) C (nI 5) dL_law_300 rfl (by decide) ?_
  refine w_iconst (nx := 302) C (nI 1) dL_law_301 rfl (by decide) ?_
  obtain ⟨_, hv_6⟩ := RX_recv (G := kG κ) (h := h) (w := w2_3) (X := X) (by assumption)
  refine w_callV (nx := 305) (wr := []) (rest := []) (ci := 8) C mi_X8_tried (k_tr1B _ _ h w2_3 X kd tb ky (by first | assumption | omega) (by first | assumption | omega) (by first | assumption | omega) (by first | assumption | omega) (by first | assumption | omega)) 0 dL_law_302 rfl wl_L_77 rfl rfl hv_6 (pm_blkc [w2_3] [0] [] 1 (by decide +kernel) rfl rfl rfl rfl) rfl rfl (Nat.le_of_ble_eq_true rfl) (Nat.le_of_ble_eq_true rfl) (Nat.le_of_ble_eq_true rfl) (rc_c (by omega)) (rc_s (by omega)) (fun v9 w2_7 R_5 => ?_)
  obtain ⟨w9, rfl, rfl, hR2_8⟩ := R_5
  refine ww_perm (pm_blkj [w2_7] [] [0] 1 (by decide +kernel) rfl rfl rfl rfl) ?_
  show WW κ c n ((w2_7)) 305 [(16, .int (nI (rsn (rn5 (xS X) kd tb ky)))), (13, .int (nI kd)), (14, .int (nI tb)), (15, .int (nI ky)), (5, .int v), (11, .long bh), (4, .int (nI t)), (2, .long sv), (1, .ref h), (0, .ref b)] [.int (nI 0)]
  refine w_istore (nx := 307) (lo2 := [(17, .int (nI 0)), (16, .int (nI (rsn (rn5 (xS X) kd tb ky)))), (13, .int (nI kd)), (14, .int (nI tb)), (15, .int (nI ky)), (5, .int v), (11, .long bh), (4, .int (nI t)), (2, .long sv), (1, .ref h), (0, .ref b)]) C dL_law_305 rfl (by decide) rfl ?_
  refine w_aload_n (nx := 308) C 9 dL_law_307 rfl rfl rfl ?_
  refine w_iload (nx := 310) C 2 dL_law_308 rfl rfl ?_
  refine w_iload (nx := 312) C 3 dL_law_310 rfl rfl ?_
  refine w_iload (nx := 314) C 4 dL_law_312 rfl rfl ?_
  refine w_iconst (nx := 315) C (nI 5) dL_law_314 rfl (by decide) ?_
  refine w_iconst (nx := 316) C (nI 4) dL_law_315 rfl (by decide) ?_
  obtain ⟨_, hv_10⟩ := RX_recv (G := kG κ) (h := h) (w := w2_7) (X := X) (by assumption)
  refine w_callV (nx := 319) (wr := []) (rest := []) (ci := 8) C mi_X8_tried (k_tr4 _ _ h w2_7 X kd tb ky (by first | assumption | omega) (by first | assumption | omega) (by first | assumption | omega) (by first | assumption | omega)) 0 dL_law_316 rfl wl_L_77 rfl rfl hv_10 (pm_blkc [w2_7] [0] [] 1 (by decide +kernel) rfl rfl rfl rfl) rfl rfl (Nat.le_of_ble_eq_true rfl) (Nat.le_of_ble_eq_true rfl) (Nat.le_of_ble_eq_true rfl) (rc_c (by omega)) (rc_s (by omega)) (fun v9 w2_11 R_9 => ?_)
  obtain ⟨w9, rfl, rfl, hR2_12⟩ := R_9
  refine ww_perm (pm_blkj [w2_11] [] [0] 1 (by decide +kernel) rfl rfl rfl rfl) ?_
  show WW κ c n ((w2_11)) 319 [(17, .int (nI 0)), (16, .int (nI (rsn (rn5 (xS X) kd tb ky)))), (13, .int (nI kd)), (14, .int (nI tb)), (15, .int (nI ky)), (5, .int v), (11, .long bh), (4, .int (nI t)), (2, .long sv), (1, .ref h), (0, .ref b)] [.int (nI (rsP (rn5 (xS X) kd tb ky)))]
  refine w_istore (nx := 321) (lo2 := [(18, .int (nI (rsP (rn5 (xS X) kd tb ky)))), (17, .int (nI 0)), (16, .int (nI (rsn (rn5 (xS X) kd tb ky)))), (13, .int (nI kd)), (14, .int (nI tb)), (15, .int (nI ky)), (5, .int v), (11, .long bh), (4, .int (nI t)), (2, .long sv), (1, .ref h), (0, .ref b)]) C dL_law_319 rfl (by decide) rfl ?_
  refine w_iload (nx := 323) C 2 dL_law_321 rfl rfl ?_
  refine n_if_ne (tg := 369) (nx := 326) C dL_law_323 rfl rfl (by omega) (fun h_13 => ?_) (fun h_13 => ?_)
  · refine w_iload (nx := 371) C 1 dL_law_369 rfl rfl ?_
    refine w_if_ne (tg := 378) (nx := 374) C dL_law_371 rfl rfl (fun q9 => absurd (by decide) q9) (fun _ => ?_)
    refine w_iconst (nx := 375) C (nI 1) dL_law_374 rfl (by decide) ?_
    refine w_goto (nx := 379) C dL_law_375 rfl ?_
    refine w_istore (nx := 381) (lo2 := [(19, .int (nI 1)), (18, .int (nI (rsP (rn5 (xS X) kd tb ky)))), (17, .int (nI 0)), (16, .int (nI (rsn (rn5 (xS X) kd tb ky)))), (13, .int (nI kd)), (14, .int (nI tb)), (15, .int (nI ky)), (5, .int v), (11, .long bh), (4, .int (nI t)), (2, .long sv), (1, .ref h), (0, .ref b)]) C dL_law_379 rfl (by decide) rfl ?_
    refine w_iload (nx := 383) C 0 dL_law_381 rfl rfl ?_
    refine w_if_eq (tg := 453) (nx := 386) C dL_law_383 rfl rfl (fun q9 => absurd q9 (by decide)) (fun _ => ?_)
    refine w_iload (nx := 388) C 1 dL_law_386 rfl rfl ?_
    refine n_if_lt (tg := 453) (nx := 391) C dL_law_388 rfl rfl (by omega) ?_
    refine w_iload (nx := 393) C 1 dL_law_391 rfl rfl ?_
    refine w_aload_n (nx := 394) C 11 dL_law_393 rfl rfl rfl ?_
    refine w_bipush (nx := 396) C (nI 7) dL_law_394 rfl (by decide) ?_
    obtain ⟨_, hv_18⟩ := RX_recv (G := kG κ) (h := h) (w := w2_11) (X := X) (by assumption)
    refine w_callV (nx := 399) (wr := []) (rest := [.int (nI (rsP (rn5 (xS X) kd tb ky)))]) (ci := 8) C mi_X8_count (k_cnt7 _ _ h w2_11 X (by first | assumption | omega)) 0 dL_law_396 rfl wl_L_12 rfl rfl hv_18 (pm_blkc [w2_11] [0] [] 1 (by decide +kernel) rfl rfl rfl rfl) rfl rfl (Nat.le_of_ble_eq_true rfl) (Nat.le_of_ble_eq_true rfl) (Nat.le_of_ble_eq_true rfl) (rc_c (by omega)) (rc_s (by omega)) (fun v9 w2_19 R_17 => ?_)
    obtain ⟨w9, rfl, rfl, hR2_20⟩ := R_17
    refine ww_perm (pm_blkj [w2_19] [] [0] 1 (by decide +kernel) rfl rfl rfl rfl) ?_
    show WW κ c n ((w2_19)) 399 [(19, .int (nI 1)), (18, .int (nI (rsP (rn5 (xS X) kd tb ky)))), (17, .int (nI 0)), (16, .int (nI (rsn (rn5 (xS X) kd tb ky)))), (13, .int (nI kd)), (14, .int (nI tb)), (15, .int (nI ky)), (5, .int v), (11, .long bh), (4, .int (nI t)), (2, .long sv), (1, .ref h), (0, .ref b)] [.int (nI (sD (xS X))), .int (nI (rsP (rn5 (xS X) kd tb ky)))]
    refine n_icmp_gt (tg := 453) (nx := 402) C dL_law_399 rfl rfl (by omega) (by omega) (fun h_21 => ?_) (fun h_21 => ?_)
    · exact absurd h_21 (by omega)
    · refine w_aload_n (nx := 403) C 11 dL_law_402 rfl rfl rfl ?_
      refine w_iload (nx := 405) C 4 dL_law_403 rfl rfl ?_
      refine w_iload (nx := 407) C 5 dL_law_405 rfl rfl ?_
      refine w_iload (nx := 409) C 6 dL_law_407 rfl rfl ?_
      refine w_iconst (nx := 410) C (nI 5) dL_law_409 rfl (by decide) ?_
      obtain ⟨_, hv_23⟩ := RX_recv (G := kG κ) (h := h) (w := w2_19) (X := X) (by assumption)
      refine w_callV (nx := 413) (wr := []) (rest := []) (ci := 8) C mi_X8_culprits (k_culB _ _ h w2_19 X kd tb ky (by first | assumption | omega) (by first | assumption | omega) (by first | assumption | omega) (by first | assumption | omega) (by first | assumption | omega)) 0 dL_law_410 rfl wl_L_80 rfl rfl hv_23 (pm_blkc [w2_19] [0] [] 1 (by decide +kernel) rfl rfl rfl rfl) rfl rfl (Nat.le_of_ble_eq_true rfl) (Nat.le_of_ble_eq_true rfl) (Nat.le_of_ble_eq_true rfl) (rc_c (by omega)) (rc_s (by omega)) (fun v9 w2_24 R_22 => ?_)
      obtain ⟨cu, w9, rfl, rfl, hcu, hR2_25⟩ := R_22
      refine ww_perm (pm_blkj [w2_24] [] [0] 1 (by decide +kernel) rfl rfl rfl rfl) ?_
      show WW κ c n ((w2_24)) 413 [(19, .int (nI 1)), (18, .int (nI (rsP (rn5 (xS X) kd tb ky)))), (17, .int (nI 0)), (16, .int (nI (rsn (rn5 (xS X) kd tb ky)))), (13, .int (nI kd)), (14, .int (nI tb)), (15, .int (nI ky)), (5, .int v), (11, .long bh), (4, .int (nI t)), (2, .long sv), (1, .ref h), (0, .ref b)] [.int cu]
      refine w_bipush (nx := 415) C (-6) dL_law_413 rfl (by decide) ?_
      refine w_icmp_ne (tg := 422) (nx := 418) C dL_law_415 rfl rfl (fun h_26 => ?_) (fun h_26 => ?_)
      · refine w_iconst (nx := 423) C (nI 0) dL_law_422 rfl (by decide) ?_
        refine w_iload (nx := 425) C 3 dL_law_423 rfl rfl ?_
        refine n_if_ne (tg := 432) (nx := 428) C dL_law_425 rfl rfl (by omega) (fun h_27 => ?_) (fun h_27 => ?_)
        · refine w_iconst (nx := 433) C (nI 0) dL_law_432 rfl (by decide) ?_
          refine n_icmp_ne (tg := 453) (nx := 436) C dL_law_433 rfl rfl (by decide) (by decide) (fun q9 => absurd (by decide) q9) (fun _ => ?_)
          refine w_aload_n (nx := 437) C 11 dL_law_436 rfl rfl rfl ?_
          refine w_callS (nx := 440) (wr := []) (rest := []) C ms_L_holds (c_L_holds _ _ h w2_24 X (by first | assumption | omega) (hI.2.1)) dL_law_437 rfl wl_L_83 rfl (pm_blkc [w2_24] [0] [] 1 (by decide +kernel) rfl rfl rfl rfl) rfl rfl (Nat.le_of_ble_eq_true rfl) (Nat.le_of_ble_eq_true rfl) (Nat.le_of_ble_eq_true rfl) (rc_c (by omega)) (rc_s (by omega)) (fun v9 w2_30 R_29 => ?_)
          obtain ⟨w9, rfl, rfl, hR2_31⟩ := R_29
          refine ww_perm (pm_blkj [w2_30] [] [0] 1 (by decide +kernel) rfl rfl rfl rfl) ?_
          show WW κ c n ((w2_30)) 440 [(19, .int (nI 1)), (18, .int (nI (rsP (rn5 (xS X) kd tb ky)))), (17, .int (nI 0)), (16, .int (nI (rsn (rn5 (xS X) kd tb ky)))), (13, .int (nI kd)), (14, .int (nI tb)), (15, .int (nI ky)), (5, .int v), (11, .long bh), (4, .int (nI t)), (2, .long sv), (1, .ref h), (0, .ref b)] [.int (nI 1)]
          refine w_if_eq (tg := 453) (nx := 443) C dL_law_440 rfl rfl (fun q9 => absurd q9 (by decide)) (fun _ => ?_)
          refine w_aload_n (nx := 444) C 11 dL_law_443 rfl rfl rfl ?_
          refine w_callS (nx := 447) (wr := []) (rest := []) C ms_L_digest (c_L_digest _ _ h w2_30 X (by first | assumption | omega)) dL_law_444 rfl wl_L_65 rfl (pm_blkc [w2_30] [0] [] 1 (by decide +kernel) rfl rfl rfl rfl) rfl rfl (Nat.le_of_ble_eq_true rfl) (Nat.le_of_ble_eq_true rfl) (Nat.le_of_ble_eq_true rfl) (rc_c (by omega)) (rc_s (by omega)) (fun v9 w2_34 R_33 => ?_)
          obtain ⟨w9, rfl, rfl, hR2_35⟩ := R_33
          refine ww_perm (pm_blkj [w2_34] [] [0] 1 (by decide +kernel) rfl rfl rfl rfl) ?_
          show WW κ c n ((w2_34)) 447 [(19, .int (nI 1)), (18, .int (nI (rsP (rn5 (xS X) kd tb ky)))), (17, .int (nI 0)), (16, .int (nI (rsn (rn5 (xS X) kd tb ky)))), (13, .int (nI kd)), (14, .int (nI tb)), (15, .int (nI ky)), (5, .int v), (11, .long bh), (4, .int (nI t)), (2, .long sv), (1, .ref h), (0, .ref b)] [.long (dgS (xS X))]
          refine w_lload (nx := 449) C 8 dL_law_447 rfl rfl ?_
          refine w_lcmp (nx := 450) C (lg_cmp (dgS (xS X)) bh) dL_law_449 rfl rfl ?_
          refine w_if_eq (tg := 455) (nx := 453) C dL_law_450 rfl rfl (fun _ => ?_) (fun q9 => absurd ((lg_cmp_eq _ _).mpr hbh.symm) q9)
          refine ww_lo [7, 8, 9, 10, 11, 12] (lo' := [(5, .int v), (11, .long bh), (4, .int (nI t)), (2, .long sv), (1, .ref h), (0, .ref b)]) rfl ?_
          exact seg455 C (X := X) (w1 := w2_34) ht hI hbh (by assumption) hc hn hc9 hn9 k
        · exact absurd h_27 hno
      · exact absurd h_26 hcu
  · exact absurd h_13 hno
set_option maxHeartbeats 4000000 in
set_option maxRecDepth 100000 in
theorem seg252 {κ : KX} (C : CT κ cL_law RL 20 room_1) {b h t : Nat} {X : SX} {w1 : va_W} {v x : Int32} {bh sv : Int64} (ht : t < 32) (hI : INV X sv) (hbh : bh = dgS (xS X)) (hR : RX (kG κ) h w1 X) {c n c9 n9 : Nat} (hc : c + 10 ≤ c9) (hn : n + 813 ≤ n9) (hc9 : c9 ≤ 600000) (hn9 : n9 ≤ 7302250) (k : ∀ (X2 : SX) (w2 : va_W) (s2 : Int64), INV X2 s2 → RX (kG κ) h w2 X2 → WW κ c9 n9 ((w2)) 45 [(4, .int (nI (t + 1))), (2, .long s2), (1, .ref h), (0, .ref b)] []) : WW κ c n ((w1)) 252 [(5, .int v), (6, .int x), (11, .long bh), (4, .int (nI t)), (2, .long sv), (1, .ref h), (0, .ref b)] [] := by
  refine w_iload (nx := 254) C 1 dL_law_252 rfl rfl ?_
  refine w_iconst (nx := 255) C (nI 3) dL_law_254 rfl (by decide) ?_
  refine w_callS (nx := 258) (wr := ((w1))) (rest := []) C ms_L_low (c_L_low _ _ x 3 (by first | assumption | omega) (by first | assumption | omega)) dL_law_255 rfl wl_L_29 rfl (pm_blkc [w1] [] [0] 1 (by decide +kernel) rfl rfl rfl rfl) rfl rfl (Nat.le_of_ble_eq_true rfl) (Nat.le_of_ble_eq_true rfl) (Nat.le_of_ble_eq_true rfl) (rc_c (by omega)) (rc_s (by omega)) (fun v9 w9 R_1 => ?_)
  obtain ⟨rfl, rfl⟩ := R_1
  show WW κ c n ((w1)) 258 [(5, .int v), (6, .int x), (11, .long bh), (4, .int (nI t)), (2, .long sv), (1, .ref h), (0, .ref b)] [.int (nI (lwN x 3))]
  refine w_istore (nx := 260) (lo2 := [(13, .int (nI (lwN x 3))), (5, .int v), (6, .int x), (11, .long bh), (4, .int (nI t)), (2, .long sv), (1, .ref h), (0, .ref b)]) C dL_law_258 rfl (by decide) rfl ?_
  refine w_iload (nx := 262) C 2 dL_law_260 rfl rfl ?_
  refine w_iconst (nx := 263) C (nI 2) dL_law_262 rfl (by decide) ?_
  refine w_ishr (nx := 264) C (x >>> ((nI 2) &&& 31)) dL_law_263 rfl rfl ?_
  refine w_iconst (nx := 265) C (nI 3) dL_law_264 rfl (by decide) ?_
  refine w_iand (nx := 266) C (nI (u4 (x >>> (nI 2 &&& 31)))) dL_law_265 rfl (u4_and _) ?_
  refine w_istore (nx := 268) (lo2 := [(14, .int (nI (u4 (x >>> (nI 2 &&& 31))))), (13, .int (nI (lwN x 3))), (5, .int v), (6, .int x), (11, .long bh), (4, .int (nI t)), (2, .long sv), (1, .ref h), (0, .ref b)]) C dL_law_266 rfl (by decide) rfl ?_
  refine w_iload (nx := 270) C 3 dL_law_268 rfl rfl ?_
  refine w_iconst (nx := 271) C (nI 4) dL_law_270 rfl (by decide) ?_
  refine w_ishr (nx := 272) C (x >>> ((nI 4) &&& 31)) dL_law_271 rfl rfl ?_
  refine w_bipush (nx := 274) C (nI 13) dL_law_272 rfl (by decide) ?_
  refine w_callS (nx := 277) (wr := ((w1))) (rest := []) C ms_L_low (c_L_low _ _ (x >>> ((nI 4) &&& 31)) 13 (by first | assumption | omega) (by first | assumption | omega)) dL_law_274 rfl wl_L_29 rfl (pm_blkc [w1] [] [0] 1 (by decide +kernel) rfl rfl rfl rfl) rfl rfl (Nat.le_of_ble_eq_true rfl) (Nat.le_of_ble_eq_true rfl) (Nat.le_of_ble_eq_true rfl) (rc_c (by omega)) (rc_s (by omega)) (fun v9 w9 R_2 => ?_)
  obtain ⟨rfl, rfl⟩ := R_2
  show WW κ c n ((w1)) 277 [(14, .int (nI (u4 (x >>> (nI 2 &&& 31))))), (13, .int (nI (lwN x 3))), (5, .int v), (6, .int x), (11, .long bh), (4, .int (nI t)), (2, .long sv), (1, .ref h), (0, .ref b)] [.int (nI (lwN (x >>> ((nI 4) &&& 31)) 13))]
  refine w_istore (nx := 279) (lo2 := [(15, .int (nI (lwN (x >>> ((nI 4) &&& 31)) 13))), (14, .int (nI (u4 (x >>> (nI 2 &&& 31))))), (13, .int (nI (lwN x 3))), (5, .int v), (6, .int x), (11, .long bh), (4, .int (nI t)), (2, .long sv), (1, .ref h), (0, .ref b)]) C dL_law_277 rfl (by decide) rfl ?_
  refine ww_lo [2, 1, 0, 3, 5, 6, 7, 8, 9] (lo' := [(13, .int (nI (lwN x 3))), (14, .int (nI (u4 (x >>> (nI 2 &&& 31))))), (15, .int (nI (lwN (x >>> ((nI 4) &&& 31)) 13))), (5, .int v), (11, .long bh), (4, .int (nI t)), (2, .long sv), (1, .ref h), (0, .ref b)]) rfl ?_
  by_cases hok : rsn (rn5 (xS X) (lwN x 3) (u4 (x >>> (nI 2 &&& 31))) (lwN (x >>> ((nI 4) &&& 31)) 13)) = 0
  · exact seg279A C (X := X) (w1 := w1) ht hI hbh (by assumption) (lwN_lt _ (by decide)) (u4_lt _) (Nat.lt_trans (lwN_lt _ (by decide : 0 < 13)) (by decide)) hok hc hn hc9 hn9 k
  · exact seg279B C (X := X) (w1 := w1) ht hI hbh (by assumption) (lwN_lt _ (by decide)) (u4_lt _) (Nat.lt_trans (lwN_lt _ (by decide : 0 < 13)) (by decide)) hok hc hn hc9 hn9 k
set_option maxHeartbeats 4000000 in
set_option maxRecDepth 100000 in
theorem seg98N {κ : KX} (C : CT κ cL_law RL 20 room_1) {b h t : Nat} {X : SX} {w1 : va_W} {nh : Nat} {v x g : Int32} {bf sv : Int64} (ht : t < 32) (hI : INV X sv) (hbf : bf = dgS (xS X)) (hnh : nh = (xH X).1) (hg : g < 0) (hR : RX (kG κ) h w1 X) {c n c9 n9 : Nat} (hc : c + 10 ≤ c9) (hn : n + 813 ≤ n9) (hc9 : c9 ≤ 600000) (hn9 : n9 ≤ 7302250) (k : ∀ (X2 : SX) (w2 : va_W) (s2 : Int64), INV X2 s2 → RX (kG κ) h w2 X2 → WW κ c9 n9 ((w2)) 45 [(4, .int (nI (t + 1))), (2, .long s2), (1, .ref h), (0, .ref b)] []) : WW κ c n ((w1)) 98 [(10, .int g), (9, .int (nI nh)), (7, .long bf), (6, .int x), (5, .int v), (4, .int (nI t)), (2, .long sv), (1, .ref h), (0, .ref b)] [] := by
  have hz6 := hI.1.2.1.1
  refine w_aload_n (nx := 99) C 7 dL_law_98 rfl rfl rfl ?_
  refine w_callS (nx := 102) (wr := []) (rest := []) C ms_L_digest (c_L_digest _ _ h w1 X (by first | assumption | omega)) dL_law_99 rfl wl_L_65 rfl (pm_blkc [w1] [0] [] 1 (by decide +kernel) rfl rfl rfl rfl) rfl rfl (Nat.le_of_ble_eq_true rfl) (Nat.le_of_ble_eq_true rfl) (Nat.le_of_ble_eq_true rfl) (rc_c (by omega)) (rc_s (by omega)) (fun v9 w2_2 R_1 => ?_)
  obtain ⟨w9, rfl, rfl, hR2_3⟩ := R_1
  refine ww_perm (pm_blkj [w2_2] [] [0] 1 (by decide +kernel) rfl rfl rfl rfl) ?_
  show WW κ c n ((w2_2)) 102 [(10, .int g), (9, .int (nI nh)), (7, .long bf), (6, .int x), (5, .int v), (4, .int (nI t)), (2, .long sv), (1, .ref h), (0, .ref b)] [.long (dgS (xS X))]
  refine w_lstore (nx := 104) (lo2 := [(11, .long (dgS (xS X))), (10, .int g), (9, .int (nI nh)), (7, .long bf), (6, .int x), (5, .int v), (4, .int (nI t)), (2, .long sv), (1, .ref h), (0, .ref b)]) C dL_law_102 rfl (by decide) rfl ?_
  refine w_iload (nx := 106) C 1 dL_law_104 rfl rfl ?_
  refine w_if_ge (tg := 131) (nx := 109) C dL_law_106 rfl rfl (fun h_4 => ?_) (fun h_4 => ?_)
  · exact absurd h_4 (ge_no hg)
  · refine w_lload (nx := 111) C 0 dL_law_109 rfl rfl ?_
    refine w_lload (nx := 113) C 3 dL_law_111 rfl rfl ?_
    refine w_lcmp (nx := 114) C (lg_cmp (dgS (xS X)) bf) dL_law_113 rfl rfl ?_
    refine w_if_ne (tg := 156) (nx := 117) C dL_law_114 rfl rfl (fun q9 => absurd q9 (fun z => z ((lg_cmp_eq _ _).mpr hbf.symm))) (fun _ => ?_)
    refine w_aload_n (nx := 118) C 8 dL_law_117 rfl rfl rfl ?_
    refine w_bipush (nx := 120) C (nI 11) dL_law_118 rfl (by decide) ?_
    obtain ⟨_, hv_7⟩ := RX_recv (G := kG κ) (h := h) (w := w2_2) (X := X) (by assumption)
    refine w_callV (nx := 123) (wr := []) (rest := []) (ci := 8) C mi_X8_count (k_cnt11 _ _ h w2_2 X (by first | assumption | omega)) 0 dL_law_120 rfl wl_L_12 rfl rfl hv_7 (pm_blkc [w2_2] [0] [] 1 (by decide +kernel) rfl rfl rfl rfl) rfl rfl (Nat.le_of_ble_eq_true rfl) (Nat.le_of_ble_eq_true rfl) (Nat.le_of_ble_eq_true rfl) (rc_c (by omega)) (rc_s (by omega)) (fun v9 w2_8 R_6 => ?_)
    obtain ⟨w9, rfl, rfl, hR2_9⟩ := R_6
    refine ww_perm (pm_blkj [w2_8] [] [0] 1 (by decide +kernel) rfl rfl rfl rfl) ?_
    show WW κ c n ((w2_8)) 123 [(11, .long (dgS (xS X))), (10, .int g), (9, .int (nI nh)), (7, .long bf), (6, .int x), (5, .int v), (4, .int (nI t)), (2, .long sv), (1, .ref h), (0, .ref b)] [.int (nI ((xH X).1))]
    refine w_iload (nx := 125) C 2 dL_law_123 rfl rfl ?_
    refine n_icmp_eq (tg := 158) (nx := 128) C dL_law_125 rfl rfl (by omega) (by omega) (fun h_10 => ?_) (fun h_10 => ?_)
    · refine w_iload (nx := 160) C 1 dL_law_158 rfl rfl ?_
      refine w_if_lt (tg := 182) (nx := 163) C dL_law_160 rfl rfl (fun h_11 => ?_) (fun h_11 => ?_)
      · refine w_iload (nx := 184) C 1 dL_law_182 rfl rfl ?_
        refine w_if_lt (tg := 252) (nx := 187) C dL_law_184 rfl rfl (fun h_12 => ?_) (fun h_12 => ?_)
        · refine ww_lo [5, 4, 0, 6, 7, 8, 9] (lo' := [(5, .int v), (6, .int x), (11, .long (dgS (xS X))), (4, .int (nI t)), (2, .long sv), (1, .ref h), (0, .ref b)]) rfl ?_
          exact seg252 C (X := X) (w1 := w2_8) ht hI rfl (by assumption) (by omega) (by omega) hc9 hn9 k
        · exact absurd hg h_12
      · exact absurd hg h_11
    · exact absurd hnh.symm h_10
set_option maxHeartbeats 4000000 in
set_option maxRecDepth 100000 in
theorem seg182 {κ : KX} (C : CT κ cL_law RL 20 room_1) {b h t : Nat} {X Y : SX} {F : SX → Int32 × SX} {w1 : va_W} {v x g : Int32} {bf bh sv : Int64} (ht : t < 32) (hI : INV Y sv) (hbf : bf = dgS (xS X)) (hbh : bh = dgS (xS Y)) (hg : ¬ g < 0) (hz : ¬ (xH Y).1 = 0) (hZI : INV (o_undo Y).2 sv) (hZs : xS (o_undo Y).2 = xS X) (hZa : (F (o_undo Y).2).1 = g) (hZt : xS (F (o_undo Y).2).2 = xS Y) (hZU : INV (F (o_undo Y).2).2 sv) (hAct : ∀ (l : Launch) (G : GG) (h : Nat) (w : va_W) (X : SX) (hRX : RX G h w X), MT l G yL_act cL_act 4 (some .int) 62 10 813 [.ref h, .int v, .int x] ((w)) (fun v9 ws9 => ∃ (w2 : va_W), v9 = some (.int ((F X).1)) ∧ ws9 = ((w2)) ∧ RX G h w2 (F X).2)) (hR : RX (kG κ) h w1 Y) {c n c9 n9 : Nat} (hc : c + 20 ≤ c9) (hn : n + 1626 ≤ n9) (hc9 : c9 ≤ 600000) (hn9 : n9 ≤ 7302250) (k : ∀ (X2 : SX) (w2 : va_W) (s2 : Int64), INV X2 s2 → RX (kG κ) h w2 X2 → WW κ c9 n9 ((w2)) 45 [(4, .int (nI (t + 1))), (2, .long s2), (1, .ref h), (0, .ref b)] []) : WW κ c n ((w1)) 182 [(5, .int v), (6, .int x), (7, .long bf), (10, .int g), (11, .long bh), (4, .int (nI t)), (2, .long sv), (1, .ref h), (0, .ref b)] [] := by
  have hz6 := hI.1.2.1.1
  have hd2 : dgS (xS (o_undo Y).2) = bf := by rw [hZs]; exact hbf.symm
  have hd3 : dgS (xS (F (o_undo Y).2).2) = bh := by rw [hZt]; exact hbh.symm
  refine w_iload (nx := 184) C 3 dL_law_182 rfl rfl ?_
  refine w_if_lt (tg := 252) (nx := 187) C dL_law_184 rfl rfl (fun h_1 => ?_) (fun h_1 => ?_)
  · exact absurd h_1 hg
  · refine w_iload (nx := 189) C 0 dL_law_187 rfl rfl ?_
    refine w_bipush (nx := 191) C (nI 8) dL_law_189 rfl (by decide) ?_
    refine w_ishr (nx := 192) C (v >>> ((nI 8) &&& 31)) dL_law_191 rfl rfl ?_
    refine w_iconst (nx := 193) C (nI 1) dL_law_192 rfl (by decide) ?_
    refine w_iand (nx := 194) C ((v >>> ((nI 8) &&& 31)) &&& (nI 1)) dL_law_193 rfl rfl ?_
    refine w_iconst (nx := 195) C (nI 1) dL_law_194 rfl (by decide) ?_
    refine w_icmp_ne (tg := 252) (nx := 198) C dL_law_195 rfl rfl (fun h_2 => ?_) (fun h_2 => ?_)
    · refine ww_lo [0, 1, 4, 5, 6, 7, 8] (lo' := [(5, .int v), (6, .int x), (11, .long bh), (4, .int (nI t)), (2, .long sv), (1, .ref h), (0, .ref b)]) rfl ?_
      exact seg252 C (X := Y) (w1 := w1) ht hI hbh (by assumption) (by omega) (by omega) hc9 hn9 k
    · refine w_aload_n (nx := 199) C 7 dL_law_198 rfl rfl rfl ?_
      refine w_bipush (nx := 201) C (nI 11) dL_law_199 rfl (by decide) ?_
      obtain ⟨_, hv_4⟩ := RX_recv (G := kG κ) (h := h) (w := w1) (X := Y) (by assumption)
      refine w_callV (nx := 204) (wr := []) (rest := []) (ci := 8) C mi_X8_count (k_cnt11 _ _ h w1 Y (by first | assumption | omega)) 0 dL_law_201 rfl wl_L_12 rfl rfl hv_4 (pm_blkc [w1] [0] [] 1 (by decide +kernel) rfl rfl rfl rfl) rfl rfl (Nat.le_of_ble_eq_true rfl) (Nat.le_of_ble_eq_true rfl) (Nat.le_of_ble_eq_true rfl) (rc_c (by omega)) (rc_s (by omega)) (fun v9 w2_5 R_3 => ?_)
      obtain ⟨w9, rfl, rfl, hR2_6⟩ := R_3
      refine ww_perm (pm_blkj [w2_5] [] [0] 1 (by decide +kernel) rfl rfl rfl rfl) ?_
      show WW κ c n ((w2_5)) 204 [(5, .int v), (6, .int x), (7, .long bf), (10, .int g), (11, .long bh), (4, .int (nI t)), (2, .long sv), (1, .ref h), (0, .ref b)] [.int (nI ((xH Y).1))]
      refine w_iconst (nx := 205) C (nI 1) dL_law_204 rfl (by decide) ?_
      refine w_isub (nx := 206) C (nI ((xH Y).1 - 1)) dL_law_205 rfl (pk_sub (by omega)) ?_
      refine w_istore (nx := 208) (lo2 := [(13, .int (nI ((xH Y).1 - 1))), (5, .int v), (6, .int x), (7, .long bf), (10, .int g), (11, .long bh), (4, .int (nI t)), (2, .long sv), (1, .ref h), (0, .ref b)]) C dL_law_206 rfl (by decide) rfl ?_
      refine w_aload_n (nx := 209) C 8 dL_law_208 rfl rfl rfl ?_
      obtain ⟨_, hv_8⟩ := RX_recv (G := kG κ) (h := h) (w := w2_5) (X := Y) (by assumption)
      refine w_callV (nx := 212) (wr := []) (rest := []) (ci := 8) C mi_X8_undo (k_undo _ _ h w2_5 Y (by first | assumption | omega) (by first | assumption | omega)) 0 dL_law_209 rfl wl_L_58 rfl rfl hv_8 (pm_blkc [w2_5] [0] [] 1 (by decide +kernel) rfl rfl rfl rfl) rfl rfl (Nat.le_of_ble_eq_true rfl) (Nat.le_of_ble_eq_true rfl) (Nat.le_of_ble_eq_true rfl) (rc_c (by omega)) (rc_s (by omega)) (fun v9 w2_9 R_7 => ?_)
      obtain ⟨w9, rfl, rfl, hR2_10⟩ := R_7
      refine ww_perm (pm_blkj [w2_9] [] [0] 1 (by decide +kernel) rfl rfl rfl rfl) ?_
      show WW κ c n ((w2_9)) 212 [(13, .int (nI ((xH Y).1 - 1))), (5, .int v), (6, .int x), (7, .long bf), (10, .int g), (11, .long bh), (4, .int (nI t)), (2, .long sv), (1, .ref h), (0, .ref b)] [.int (nI ((xH Y).1 - 1))]
      refine w_iload (nx := 214) C 0 dL_law_212 rfl rfl ?_
      refine n_icmp_ne (tg := 250) (nx := 217) C dL_law_214 rfl rfl (by omega) (by omega) (fun h_11 => ?_) (fun h_11 => ?_)
      · exact absurd rfl h_11
      · refine w_aload_n (nx := 218) C 8 dL_law_217 rfl rfl rfl ?_
        refine w_callS (nx := 221) (wr := []) (rest := []) C ms_L_digest (c_L_digest _ _ h w2_9 ((o_undo Y).2) (by first | assumption | omega)) dL_law_218 rfl wl_L_65 rfl (pm_blkc [w2_9] [0] [] 1 (by decide +kernel) rfl rfl rfl rfl) rfl rfl (Nat.le_of_ble_eq_true rfl) (Nat.le_of_ble_eq_true rfl) (Nat.le_of_ble_eq_true rfl) (rc_c (by omega)) (rc_s (by omega)) (fun v9 w2_13 R_12 => ?_)
        obtain ⟨w9, rfl, rfl, hR2_14⟩ := R_12
        refine ww_perm (pm_blkj [w2_13] [] [0] 1 (by decide +kernel) rfl rfl rfl rfl) ?_
        show WW κ c n ((w2_13)) 221 [(13, .int (nI ((xH Y).1 - 1))), (5, .int v), (6, .int x), (7, .long bf), (10, .int g), (11, .long bh), (4, .int (nI t)), (2, .long sv), (1, .ref h), (0, .ref b)] [.long (dgS (xS ((o_undo Y).2)))]
        refine w_lload (nx := 223) C 3 dL_law_221 rfl rfl ?_
        refine w_lcmp (nx := 224) C (lg_cmp (dgS (xS ((o_undo Y).2))) bf) dL_law_223 rfl rfl ?_
        refine w_if_ne (tg := 250) (nx := 227) C dL_law_224 rfl rfl (fun q9 => absurd q9 (fun z => z ((lg_cmp_eq _ _).mpr hd2))) (fun _ => ?_)
        refine w_aload_n (nx := 228) C 8 dL_law_227 rfl rfl rfl ?_
        refine w_iload (nx := 230) C 1 dL_law_228 rfl rfl ?_
        refine w_iload (nx := 232) C 2 dL_law_230 rfl rfl ?_
        refine w_callS (nx := 235) (wr := []) (rest := []) C ms_L_act (hAct _ _ h w2_13 ((o_undo Y).2) (by first | assumption | omega)) dL_law_232 rfl wl_L_73 rfl (pm_blkc [w2_13] [0] [] 1 (by decide +kernel) rfl rfl rfl rfl) rfl rfl (Nat.le_of_ble_eq_true rfl) (Nat.le_of_ble_eq_true rfl) (Nat.le_of_ble_eq_true rfl) (rc_c (by omega)) (rc_s (by omega)) (fun v9 w2_17 R_16 => ?_)
        obtain ⟨w9, rfl, rfl, hR2_18⟩ := R_16
        refine ww_perm (pm_blkj [w2_17] [] [0] 1 (by decide +kernel) rfl rfl rfl rfl) ?_
        show WW κ (c + 10) (n + 813) ((w2_17)) 235 [(13, .int (nI ((xH Y).1 - 1))), (5, .int v), (6, .int x), (7, .long bf), (10, .int g), (11, .long bh), (4, .int (nI t)), (2, .long sv), (1, .ref h), (0, .ref b)] [.int ((F ((o_undo Y).2)).1)]
        refine w_iload (nx := 237) C 4 dL_law_235 rfl rfl ?_
        refine w_icmp_ne (tg := 250) (nx := 240) C dL_law_237 rfl rfl (fun h_19 => ?_) (fun h_19 => ?_)
        · exact absurd hZa h_19
        · refine w_aload_n (nx := 241) C 8 dL_law_240 rfl rfl rfl ?_
          refine w_callS (nx := 244) (wr := []) (rest := []) C ms_L_digest (c_L_digest _ _ h w2_17 ((F (o_undo Y).2).2) (by first | assumption | omega)) dL_law_241 rfl wl_L_65 rfl (pm_blkc [w2_17] [0] [] 1 (by decide +kernel) rfl rfl rfl rfl) rfl rfl (Nat.le_of_ble_eq_true rfl) (Nat.le_of_ble_eq_true rfl) (Nat.le_of_ble_eq_true rfl) (rc_c (by omega)) (rc_s (by omega)) (fun v9 w2_21 R_20 => ?_)
          obtain ⟨w9, rfl, rfl, hR2_22⟩ := R_20
          refine ww_perm (pm_blkj [w2_21] [] [0] 1 (by decide +kernel) rfl rfl rfl rfl) ?_
          show WW κ (c + 10) (n + 813) ((w2_21)) 244 [(13, .int (nI ((xH Y).1 - 1))), (5, .int v), (6, .int x), (7, .long bf), (10, .int g), (11, .long bh), (4, .int (nI t)), (2, .long sv), (1, .ref h), (0, .ref b)] [.long (dgS (xS ((F (o_undo Y).2).2)))]
          refine w_lload (nx := 246) C 5 dL_law_244 rfl rfl ?_
          refine w_lcmp (nx := 247) C (lg_cmp (dgS (xS ((F (o_undo Y).2).2))) bh) dL_law_246 rfl rfl ?_
          refine w_if_eq (tg := 252) (nx := 250) C dL_law_247 rfl rfl (fun _ => ?_) (fun q9 => absurd ((lg_cmp_eq _ _).mpr hd3) q9)
          refine ww_lo [1, 2, 5, 6, 7, 8, 9] (lo' := [(5, .int v), (6, .int x), (11, .long bh), (4, .int (nI t)), (2, .long sv), (1, .ref h), (0, .ref b)]) rfl ?_
          exact seg252 C (X := (F (o_undo Y).2).2) (w1 := w2_21) ht hZU (hbh.trans (by rw [hZt])) (by assumption) (by omega) (by omega) hc9 hn9 k
set_option maxHeartbeats 4000000 in
set_option maxRecDepth 100000 in
theorem seg158 {κ : KX} (C : CT κ cL_law RL 20 room_1) {b h t : Nat} {X Y : SX} {F : SX → Int32 × SX} {w1 : va_W} {v x g : Int32} {bf bh sv : Int64} (ht : t < 32) (hI : INV Y sv) (hbf : bf = dgS (xS X)) (hbh : bh = dgS (xS Y)) (hg : ¬ g < 0) (hz : ¬ (xH Y).1 = 0) (hZI : INV (o_undo Y).2 sv) (hZs : xS (o_undo Y).2 = xS X) (hZa : (F (o_undo Y).2).1 = g) (hZt : xS (F (o_undo Y).2).2 = xS Y) (hZU : INV (F (o_undo Y).2).2 sv) (hAct : ∀ (l : Launch) (G : GG) (h : Nat) (w : va_W) (X : SX) (hRX : RX G h w X), MT l G yL_act cL_act 4 (some .int) 62 10 813 [.ref h, .int v, .int x] ((w)) (fun v9 ws9 => ∃ (w2 : va_W), v9 = some (.int ((F X).1)) ∧ ws9 = ((w2)) ∧ RX G h w2 (F X).2)) (hR : RX (kG κ) h w1 Y) (hres : v &&& nI 15 = nI 6 → dgS (xS Y) = sv) {c n c9 n9 : Nat} (hc : c + 20 ≤ c9) (hn : n + 1626 ≤ n9) (hc9 : c9 ≤ 600000) (hn9 : n9 ≤ 7302250) (k : ∀ (X2 : SX) (w2 : va_W) (s2 : Int64), INV X2 s2 → RX (kG κ) h w2 X2 → WW κ c9 n9 ((w2)) 45 [(4, .int (nI (t + 1))), (2, .long s2), (1, .ref h), (0, .ref b)] []) : WW κ c n ((w1)) 158 [(5, .int v), (6, .int x), (7, .long bf), (10, .int g), (11, .long bh), (4, .int (nI t)), (2, .long sv), (1, .ref h), (0, .ref b)] [] := by
  refine w_iload (nx := 160) C 3 dL_law_158 rfl rfl ?_
  refine w_if_lt (tg := 182) (nx := 163) C dL_law_160 rfl rfl (fun h_1 => ?_) (fun h_1 => ?_)
  · exact absurd h_1 hg
  · refine w_iload (nx := 165) C 0 dL_law_163 rfl rfl ?_
    refine w_bipush (nx := 167) C (nI 15) dL_law_165 rfl (by decide) ?_
    refine w_iand (nx := 168) C (v &&& (nI 15)) dL_law_167 rfl rfl ?_
    refine w_bipush (nx := 170) C (nI 6) dL_law_168 rfl (by decide) ?_
    refine w_icmp_ne (tg := 182) (nx := 173) C dL_law_170 rfl rfl (fun h_2 => ?_) (fun h_2 => ?_)
    · exact seg182 C (X := X) (Y := Y) (F := F) (w1 := w1) ht hI hbf hbh hg hz hZI hZs hZa hZt hZU hAct (by assumption) hc hn hc9 hn9 k
    · have hs9 : bh = sv := hbh.trans (hres h_2)
      refine w_lload (nx := 175) C 4 dL_law_173 rfl rfl ?_
      refine w_lload_n (nx := 176) C 6 dL_law_175 rfl rfl rfl ?_
      refine w_lcmp (nx := 177) C (lg_cmp bh sv) dL_law_176 rfl rfl ?_
      refine w_if_eq (tg := 182) (nx := 180) C dL_law_177 rfl rfl (fun _ => ?_) (fun q9 => absurd ((lg_cmp_eq _ _).mpr hs9) q9)
      exact seg182 C (X := X) (Y := Y) (F := F) (w1 := w1) ht hI hbf hbh hg hz hZI hZs hZa hZt hZU hAct (by assumption) hc hn hc9 hn9 k
set_option maxHeartbeats 4000000 in
set_option maxRecDepth 100000 in
theorem seg98Y {κ : KX} (C : CT κ cL_law RL 20 room_1) {b h t : Nat} {X Y : SX} {F : SX → Int32 × SX} {w1 : va_W} {nh : Nat} {v x g : Int32} {bf sv : Int64} (ht : t < 32) (hI : INV Y sv) (hbf : bf = dgS (xS X)) (hg : ¬ g < 0) (hz : ¬ (xH Y).1 = 0) (hZI : INV (o_undo Y).2 sv) (hZs : xS (o_undo Y).2 = xS X) (hZa : (F (o_undo Y).2).1 = g) (hZt : xS (F (o_undo Y).2).2 = xS Y) (hZU : INV (F (o_undo Y).2).2 sv) (hAct : ∀ (l : Launch) (G : GG) (h : Nat) (w : va_W) (X : SX) (hRX : RX G h w X), MT l G yL_act cL_act 4 (some .int) 62 10 813 [.ref h, .int v, .int x] ((w)) (fun v9 ws9 => ∃ (w2 : va_W), v9 = some (.int ((F X).1)) ∧ ws9 = ((w2)) ∧ RX G h w2 (F X).2)) (hR : RX (kG κ) h w1 Y) (hres : v &&& nI 15 = nI 6 → dgS (xS Y) = sv) (hn7 : nh ≤ 6) (h6 : nh = 6 → (xH Y).1 = 6) (h7 : ¬ nh = 6 → (xH Y).1 = nh + 1) {c n c9 n9 : Nat} (hc : c + 20 ≤ c9) (hn : n + 1626 ≤ n9) (hc9 : c9 ≤ 600000) (hn9 : n9 ≤ 7302250) (k : ∀ (X2 : SX) (w2 : va_W) (s2 : Int64), INV X2 s2 → RX (kG κ) h w2 X2 → WW κ c9 n9 ((w2)) 45 [(4, .int (nI (t + 1))), (2, .long s2), (1, .ref h), (0, .ref b)] []) : WW κ c n ((w1)) 98 [(10, .int g), (9, .int (nI nh)), (7, .long bf), (6, .int x), (5, .int v), (4, .int (nI t)), (2, .long sv), (1, .ref h), (0, .ref b)] [] := by
  have hz6 := hI.1.2.1.1
  refine w_aload_n (nx := 99) C 7 dL_law_98 rfl rfl rfl ?_
  refine w_callS (nx := 102) (wr := []) (rest := []) C ms_L_digest (c_L_digest _ _ h w1 Y (by first | assumption | omega)) dL_law_99 rfl wl_L_65 rfl (pm_blkc [w1] [0] [] 1 (by decide +kernel) rfl rfl rfl rfl) rfl rfl (Nat.le_of_ble_eq_true rfl) (Nat.le_of_ble_eq_true rfl) (Nat.le_of_ble_eq_true rfl) (rc_c (by omega)) (rc_s (by omega)) (fun v9 w2_2 R_1 => ?_)
  obtain ⟨w9, rfl, rfl, hR2_3⟩ := R_1
  refine ww_perm (pm_blkj [w2_2] [] [0] 1 (by decide +kernel) rfl rfl rfl rfl) ?_
  show WW κ c n ((w2_2)) 102 [(10, .int g), (9, .int (nI nh)), (7, .long bf), (6, .int x), (5, .int v), (4, .int (nI t)), (2, .long sv), (1, .ref h), (0, .ref b)] [.long (dgS (xS Y))]
  refine w_lstore (nx := 104) (lo2 := [(11, .long (dgS (xS Y))), (10, .int g), (9, .int (nI nh)), (7, .long bf), (6, .int x), (5, .int v), (4, .int (nI t)), (2, .long sv), (1, .ref h), (0, .ref b)]) C dL_law_102 rfl (by decide) rfl ?_
  refine w_iload (nx := 106) C 1 dL_law_104 rfl rfl ?_
  refine w_if_ge (tg := 131) (nx := 109) C dL_law_106 rfl rfl (fun h_4 => ?_) (fun h_4 => ?_)
  · refine w_aload_n (nx := 132) C 8 dL_law_131 rfl rfl rfl ?_
    refine w_bipush (nx := 134) C (nI 11) dL_law_132 rfl (by decide) ?_
    obtain ⟨_, hv_6⟩ := RX_recv (G := kG κ) (h := h) (w := w2_2) (X := Y) (by assumption)
    refine w_callV (nx := 137) (wr := []) (rest := []) (ci := 8) C mi_X8_count (k_cnt11 _ _ h w2_2 Y (by first | assumption | omega)) 0 dL_law_134 rfl wl_L_12 rfl rfl hv_6 (pm_blkc [w2_2] [0] [] 1 (by decide +kernel) rfl rfl rfl rfl) rfl rfl (Nat.le_of_ble_eq_true rfl) (Nat.le_of_ble_eq_true rfl) (Nat.le_of_ble_eq_true rfl) (rc_c (by omega)) (rc_s (by omega)) (fun v9 w2_7 R_5 => ?_)
    obtain ⟨w9, rfl, rfl, hR2_8⟩ := R_5
    refine ww_perm (pm_blkj [w2_7] [] [0] 1 (by decide +kernel) rfl rfl rfl rfl) ?_
    show WW κ c n ((w2_7)) 137 [(11, .long (dgS (xS Y))), (10, .int g), (9, .int (nI nh)), (7, .long bf), (6, .int x), (5, .int v), (4, .int (nI t)), (2, .long sv), (1, .ref h), (0, .ref b)] [.int (nI ((xH Y).1))]
    refine w_iload (nx := 139) C 2 dL_law_137 rfl rfl ?_
    refine w_bipush (nx := 141) C (nI 6) dL_law_139 rfl (by decide) ?_
    refine n_icmp_ge (tg := 151) (nx := 144) C dL_law_141 rfl rfl (by omega) (by omega) (fun h_9 => ?_) (fun h_9 => ?_)
    · have h66 := h6 (by omega)
      refine w_bipush (nx := 153) C (nI 6) dL_law_151 rfl (by decide) ?_
      refine n_icmp_eq (tg := 158) (nx := 156) C dL_law_153 rfl rfl (by omega) (by omega) (fun h_10 => ?_) (fun h_10 => ?_)
      · refine ww_lo [5, 4, 3, 1, 0, 6, 7, 8, 9] (lo' := [(5, .int v), (6, .int x), (7, .long bf), (10, .int g), (11, .long (dgS (xS Y))), (4, .int (nI t)), (2, .long sv), (1, .ref h), (0, .ref b)]) rfl ?_
        exact seg158 C (X := X) (Y := Y) (F := F) (w1 := w2_7) ht hI hbf rfl hg hz hZI hZs hZa hZt hZU hAct (by assumption) hres hc hn hc9 hn9 k
      · exact absurd (by omega) h_10
    · have h67 := h7 (by omega)
      refine w_iload (nx := 146) C 2 dL_law_144 rfl rfl ?_
      refine w_iconst (nx := 147) C (nI 1) dL_law_146 rfl (by decide) ?_
      refine w_iadd (nx := 148) C (nI (nh + 1)) dL_law_147 rfl (nI_add _ _) ?_
      refine w_goto (nx := 153) C dL_law_148 rfl ?_
      refine n_icmp_eq (tg := 158) (nx := 156) C dL_law_153 rfl rfl (by omega) (by omega) (fun h_11 => ?_) (fun h_11 => ?_)
      · refine ww_lo [5, 4, 3, 1, 0, 6, 7, 8, 9] (lo' := [(5, .int v), (6, .int x), (7, .long bf), (10, .int g), (11, .long (dgS (xS Y))), (4, .int (nI t)), (2, .long sv), (1, .ref h), (0, .ref b)]) rfl ?_
        exact seg158 C (X := X) (Y := Y) (F := F) (w1 := w2_7) ht hI hbf rfl hg hz hZI hZs hZa hZt hZU hAct (by assumption) hres hc hn hc9 hn9 k
      · exact absurd (by omega) h_11
  · exact absurd (ge_yes hg) h_4
set_option maxHeartbeats 4000000 in
set_option maxRecDepth 100000 in
theorem seg52 {κ : KX} (C : CT κ cL_law RL 20 room_1) {b L : Nat} {xs : Nat → Int32} (hX9 : va_X b L xs (ks κ) (ks κ).heap) (hbl : b < (ks κ).heap.size) (hbA : ¬ kA κ b) (hL : L ≤ 260) {h t : Nat} {X : SX} {w1 : va_W} {sv : Int64} (ht : t < 32) (hI : INV X sv) (hR : RX (kG κ) h w1 X) {c n c9 n9 : Nat} (hc : c + 30 ≤ c9) (hn : n + 2439 ≤ n9) (hc9 : c9 ≤ 600000) (hn9 : n9 ≤ 7302250) (k : ∀ (X2 : SX) (w2 : va_W) (s2 : Int64), INV X2 s2 → RX (kG κ) h w2 X2 → WW κ c9 n9 ((w2)) 45 [(4, .int (nI (t + 1))), (2, .long s2), (1, .ref h), (0, .ref b)] []) : WW κ c n ((w1)) 52 [(4, .int (nI t)), (2, .long sv), (1, .ref h), (0, .ref b)] [] := by
  refine w_aload_n (nx := 53) C 3 dL_law_52 rfl rfl rfl ?_
  refine w_iconst (nx := 54) C (nI 2) dL_law_53 rfl (by decide) ?_
  refine w_iload (nx := 56) C 0 dL_law_54 rfl rfl ?_
  refine w_imul (nx := 57) C (nI (2 * t)) dL_law_56 rfl (pk_mul _ _) ?_
  refine w_callSR (nx := 60) (rest := []) C hX9 hbl hbA ms_L_cell (c_L_cell hL _ _ (2 * t) (by omega)) dL_law_57 rfl wl_L_69 rfl rfl rfl (Nat.le_of_ble_eq_true rfl) (Nat.le_of_ble_eq_true rfl) (Nat.le_of_ble_eq_true rfl) (rc_c (by omega)) (rc_s (by omega)) (fun v9 w9 R_1 => ?_)
  obtain ⟨⟨v, rfl⟩, rfl⟩ := R_1
  show WW κ c n ((w1)) 60 [(4, .int (nI t)), (2, .long sv), (1, .ref h), (0, .ref b)] [.int v]
  refine w_istore (nx := 62) (lo2 := [(5, .int v), (4, .int (nI t)), (2, .long sv), (1, .ref h), (0, .ref b)]) C dL_law_60 rfl (by decide) rfl ?_
  refine w_aload_n (nx := 63) C 4 dL_law_62 rfl rfl rfl ?_
  refine w_iconst (nx := 64) C (nI 2) dL_law_63 rfl (by decide) ?_
  refine w_iload (nx := 66) C 1 dL_law_64 rfl rfl ?_
  refine w_imul (nx := 67) C (nI (2 * t)) dL_law_66 rfl (pk_mul _ _) ?_
  refine w_iconst (nx := 68) C (nI 1) dL_law_67 rfl (by decide) ?_
  refine w_iadd (nx := 69) C (nI (2 * t + 1)) dL_law_68 rfl (nI_add _ _) ?_
  refine w_callSR (nx := 72) (rest := []) C hX9 hbl hbA ms_L_cell (c_L_cell hL _ _ (2 * t + 1) (by omega)) dL_law_69 rfl wl_L_69 rfl rfl rfl (Nat.le_of_ble_eq_true rfl) (Nat.le_of_ble_eq_true rfl) (Nat.le_of_ble_eq_true rfl) (rc_c (by omega)) (rc_s (by omega)) (fun v9 w9 R_2 => ?_)
  obtain ⟨⟨x, rfl⟩, rfl⟩ := R_2
  show WW κ c n ((w1)) 72 [(5, .int v), (4, .int (nI t)), (2, .long sv), (1, .ref h), (0, .ref b)] [.int x]
  refine w_istore (nx := 74) (lo2 := [(6, .int x), (5, .int v), (4, .int (nI t)), (2, .long sv), (1, .ref h), (0, .ref b)]) C dL_law_72 rfl (by decide) rfl ?_
  refine w_aload_n (nx := 75) C 4 dL_law_74 rfl rfl rfl ?_
  refine w_callS (nx := 78) (wr := []) (rest := []) C ms_L_digest (c_L_digest _ _ h w1 X (by first | assumption | omega)) dL_law_75 rfl wl_L_65 rfl (pm_blkc [w1] [0] [] 1 (by decide +kernel) rfl rfl rfl rfl) rfl rfl (Nat.le_of_ble_eq_true rfl) (Nat.le_of_ble_eq_true rfl) (Nat.le_of_ble_eq_true rfl) (rc_c (by omega)) (rc_s (by omega)) (fun v9 w2_4 R_3 => ?_)
  obtain ⟨w9, rfl, rfl, hR2_5⟩ := R_3
  refine ww_perm (pm_blkj [w2_4] [] [0] 1 (by decide +kernel) rfl rfl rfl rfl) ?_
  show WW κ c n ((w2_4)) 78 [(6, .int x), (5, .int v), (4, .int (nI t)), (2, .long sv), (1, .ref h), (0, .ref b)] [.long (dgS (xS X))]
  refine w_lstore (nx := 80) (lo2 := [(7, .long (dgS (xS X))), (6, .int x), (5, .int v), (4, .int (nI t)), (2, .long sv), (1, .ref h), (0, .ref b)]) C dL_law_78 rfl (by decide) rfl ?_
  refine w_aload_n (nx := 81) C 5 dL_law_80 rfl rfl rfl ?_
  refine w_bipush (nx := 83) C (nI 11) dL_law_81 rfl (by decide) ?_
  obtain ⟨_, hv_7⟩ := RX_recv (G := kG κ) (h := h) (w := w2_4) (X := X) (by assumption)
  refine w_callV (nx := 86) (wr := []) (rest := []) (ci := 8) C mi_X8_count (k_cnt11 _ _ h w2_4 X (by first | assumption | omega)) 0 dL_law_83 rfl wl_L_12 rfl rfl hv_7 (pm_blkc [w2_4] [0] [] 1 (by decide +kernel) rfl rfl rfl rfl) rfl rfl (Nat.le_of_ble_eq_true rfl) (Nat.le_of_ble_eq_true rfl) (Nat.le_of_ble_eq_true rfl) (rc_c (by omega)) (rc_s (by omega)) (fun v9 w2_8 R_6 => ?_)
  obtain ⟨w9, rfl, rfl, hR2_9⟩ := R_6
  refine ww_perm (pm_blkj [w2_8] [] [0] 1 (by decide +kernel) rfl rfl rfl rfl) ?_
  show WW κ c n ((w2_8)) 86 [(7, .long (dgS (xS X))), (6, .int x), (5, .int v), (4, .int (nI t)), (2, .long sv), (1, .ref h), (0, .ref b)] [.int (nI ((xH X).1))]
  refine w_istore (nx := 88) (lo2 := [(9, .int (nI ((xH X).1))), (7, .long (dgS (xS X))), (6, .int x), (5, .int v), (4, .int (nI t)), (2, .long sv), (1, .ref h), (0, .ref b)]) C dL_law_86 rfl (by decide) rfl ?_
  obtain ⟨F, hA, hAct⟩ := act_all v x
  refine w_aload_n (nx := 89) C 6 dL_law_88 rfl rfl rfl ?_
  refine w_iload (nx := 91) C 3 dL_law_89 rfl rfl ?_
  refine w_iload (nx := 93) C 2 dL_law_91 rfl rfl ?_
  refine w_callS (nx := 96) (wr := []) (rest := []) C ms_L_act (hAct _ _ h w2_8 X (by first | assumption | omega)) dL_law_93 rfl wl_L_73 rfl (pm_blkc [w2_8] [0] [] 1 (by decide +kernel) rfl rfl rfl rfl) rfl rfl (Nat.le_of_ble_eq_true rfl) (Nat.le_of_ble_eq_true rfl) (Nat.le_of_ble_eq_true rfl) (rc_c (by omega)) (rc_s (by omega)) (fun v9 w2_11 R_10 => ?_)
  obtain ⟨w9, rfl, rfl, hR2_12⟩ := R_10
  refine ww_perm (pm_blkj [w2_11] [] [0] 1 (by decide +kernel) rfl rfl rfl rfl) ?_
  show WW κ (c + 10) (n + 813) ((w2_11)) 96 [(9, .int (nI ((xH X).1))), (7, .long (dgS (xS X))), (6, .int x), (5, .int v), (4, .int (nI t)), (2, .long sv), (1, .ref h), (0, .ref b)] [.int ((F X).1)]
  refine w_istore (nx := 98) (lo2 := [(10, .int ((F X).1)), (9, .int (nI ((xH X).1))), (7, .long (dgS (xS X))), (6, .int x), (5, .int v), (4, .int (nI t)), (2, .long sv), (1, .ref h), (0, .ref b)]) C dL_law_96 rfl (by decide) rfl ?_
  rcases act_cases hA hI with ⟨g1, g2⟩ | ⟨g1, g2, g3, g4, g5, g6, g7, g8, g9, g10, g11⟩
  · have hR9 : RX (kG κ) h w2_11 X := by
      have z9 : RX (kG κ) h w2_11 (F X).2 := by assumption
      rw [g2] at z9
      exact z9
    exact seg98N C (X := X) (w1 := w2_11) ht hI rfl rfl g1 hR9 (by omega) (by omega) hc9 hn9 k
  · exact seg98Y C (X := X) (Y := (F X).2) (F := F) (w1 := w2_11) ht g2 rfl g1 g6 g7 g8 g9 g10 g11 hAct (by assumption) g5 hI.1.2.1.1 g3 g4 (by omega) (by omega) hc9 hn9 k
