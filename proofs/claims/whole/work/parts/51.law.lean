/-! THE CLAIM OUT OF ONE WALK OF THE LAW'S BODY. Your part is whole_start (and what it stands on); all else here is the same for every law, but numbers. -/
def R_law : String := "TriggerStagesLaw"
def lw_P (b : Addr) (xs : List Int32) (args : Array Value) (s : State) : Prop := args = #[.ref b] ∧ s.IntsAt b xs ∧ xs.length ≤ 3072 ∧ (Jvm.Cond.and given_1 narrow_1).before args s = true
def lw_Q (_ : Array Value) (s : State) (o : Outcome) (t : State) : Prop := o = .returned (some (.int 1)) ∧ Framed s o t [] 600000 7302250
def lw_Z (below : List Frame) (a : Array Value) (s : State) : State → Prop := fun t => ∃ o, t.status = .running ∧ Ended t below o ∧ lw_Q a s o t
/-- the law's own end, with 1 on the stack, nothing written that was there before, its room as the claim has it -/
theorem lw_ret {p : Program} {l : Launch} {e : Env} {s : State} {m : MethodId} {below : List Frame} {meth : Method} {c : Code} {b : Nat} (hx : p.tables.exec = Jvm.exec) (hb : c.code = code) (hr : meth.sig.returnType = ret) (hlocks : meth.locks = false) {pc : Nat} {H : Heap} {ls : Array Slot} (hdg : decode code pc = .ok (.ireturn, 1)) : W p l e room_1 s m #[Value.ref b] below meth c H [] 600000 7302250 (lw_Z below #[Value.ref b] s) (F0 m pc ls [.int 1]) := by
  intro T hT X
  obtain ⟨fs, hret, hrun, hended, hW, hframe⟩ := X.leave (v := some (.int 1)) (hlocks := hlocks) (fun h => by rw [hr] at h; cases h)
  have hmeth' : T.vm.method? m = some meth := X.method'
  refine ⟨T.setFrames fs, ?_, .returned (some (.int 1)), hrun, hended, rfl, ⟨_, rfl⟩, hW, hframe⟩
  jvm_step X.here [X.here.top, hx, hb, hdg, hmeth', hr, ret, narrow_b1]
  (try refine ⟨rfl, ?_⟩); (try refine ⟨rfl, ?_⟩)
  first | (intro acts; rw [hret _ acts rfl rfl rfl]) | rw [hret _ _ rfl rfl rfl]
  exact Steps.refl _
/-- what holds at the law's entry: the machine, the code, the tables' words (any of lw_tbl by 'hts w (by decide +kernel)'), the script of L ints xs at the cell b, what the Statement gives of the start (any of its parts by flat_of_before) -/
def lw_At (p : Program) (s : State) (m : MethodId) (meth : Method) (c : Code) (b L : Nat) (xs : Nat → Int32) : Prop :=
  p.tables.exec = Jvm.exec ∧ c.code = code ∧ meth.sig.returnType = ret ∧ c.maxLocals = 4 ∧ s.vm.findClass R_law = some m.cls ∧ (∀ w ∈ lw_tbl, w.before #[Value.ref b] s = true) ∧ va_X b L xs s s.heap ∧ b < s.heap.size ∧ meth.locks = false ∧ (Jvm.Cond.and given_1 narrow_1).before #[Value.ref b] s = true
/-! ROWS of the law: the script's ints -/
section LAW
variable {κ : KX} {cc : ByteArray} {own : String} {nL : Nat} {Rm : Room} {c n pc nx : Nat} {ws : va_W} {lo : List (Nat × Value)} {rest : List Value}
theorem w_sld (C : CT κ cc own nL Rm) {b L : Nat} {xs : Nat → Int32} (hX : va_X b L xs (ks κ) (ks κ).heap) (hbl : b < (ks κ).heap.size) (hbA : ¬ kA κ b) (i : Nat) {x : Int32} (hd : decode cc pc = .ok (.iaload, 1)) (hn : pc + 1 = nx) (hx : x = nI i) (hi : i < L) (hL : L < 2 ^ 31) (kk : WW κ c n ws nx lo (.int (xs i) :: rest)) : WW κ c n ws pc lo (.int x :: .ref b :: rest) := by
  subst hn; subst hx
  intro H locs ls hP hD hS hl
  refine va_sld C.1 C.2.1 hX hbl hbA hS (nI_in hi hL) hd ?_
  rw [nI_clamp (by omega)]
  exact kk H locs ls hP hD hS hl
theorem w_slen (C : CT κ cc own nL Rm) {b L : Nat} {xs : Nat → Int32} (hX : va_X b L xs (ks κ) (ks κ).heap) (hbl : b < (ks κ).heap.size) (hbA : ¬ kA κ b) (hd : decode cc pc = .ok (.arraylength, 1)) (hn : pc + 1 = nx) (kk : WW κ c n ws nx lo (.int (nI L) :: rest)) : WW κ c n ws pc lo (.ref b :: rest) := by
  subst hn
  intro H locs ls hP hD hS hl
  exact va_slen C.1 C.2.1 hX hbl hbA hS hd (kk H locs ls hP hD hS hl)
end LAW
theorem rc_c {x : Nat} (h : x ≤ 600000) : x ≤ room_1.cells := h
theorem rc_s {x : Nat} (h : x ≤ 7302250) : x ≤ room_1.slots := h
theorem law_cmp {L i : Nat} (hL : L ≤ 3072) (hi : i ≤ 3072) : (nI L - nI 6 < nI i) ↔ L < i + 6 := by
  rw [Int32.lt_iff_toInt_lt, pk_sub_toInt (by omega) (by decide), nI_toInt (by omega)]
  omega
theorem wi20 (x : Int32) : x = nI 0 ∨ x = nI 1 ∨ x = nI 2 ∨ x = nI 3 ∨ x = nI 4 ∨ x = nI 5 ∨ x = nI 6 ∨ x = nI 7 ∨ x = nI 8 ∨ x = nI 9 ∨ x = nI 10 ∨ x = nI 11 ∨ x = nI 12 ∨ x = nI 13 ∨ x = nI 14 ∨ x = nI 15 ∨ x = nI 16 ∨ x = nI 17 ∨ x = nI 18 ∨ x = nI 19 ∨ ¬ wi x 20 := by
  by_cases h : wi x 20
  · obtain ⟨j, hj, rfl⟩ := h
    rcases (show j = 0 ∨ j = 1 ∨ j = 2 ∨ j = 3 ∨ j = 4 ∨ j = 5 ∨ j = 6 ∨ j = 7 ∨ j = 8 ∨ j = 9 ∨ j = 10 ∨ j = 11 ∨ j = 12 ∨ j = 13 ∨ j = 14 ∨ j = 15 ∨ j = 16 ∨ j = 17 ∨ j = 18 ∨ j = 19 by omega) with rfl | rfl | rfl | rfl | rfl | rfl | rfl | rfl | rfl | rfl | rfl | rfl | rfl | rfl | rfl | rfl | rfl | rfl | rfl | rfl <;> simp
  · simp only [h, not_false_eq_true, or_true]
theorem c_X8_initR (l : Launch) (G : GG) (h : Nat)  : MT l G yX8_init cX8_init 1 none 4 32 2684 [.ref h] [(h, .inr (8, [.null, .null, .null, .null, .null]))] (fun v9 ws9 => ∃ (w2 : va_W), v9 = none ∧ ws9 = ((w2)) ∧ RX G h w2 noX) := (c_X8_init l G h).imp (fun v w ⟨s, a, p, hi, rg, sl, e1, e2⟩ => ⟨w, e1, rfl, s, a, p, hi, rg, sl, 0, (fun _ => none), (fun _ => none), (fun _ => 0), (fun _ => 0), (fun _ => 0), (fun _ => 0), (fun _ => 0), (fun _ => 0), (fun _ => 0), (fun _ => 0), (fun _ => 0), (fun _ => 0), (fun _ => 0), (fun _ => 0), (fun _ => 0), (nI 0), (-6), (-6), (nI 0), (nI 0), (nI 0), (nI 0), (-1), (nI 0), (nI 0), (nI 0), (nI 0), (nI 0), (fun _ => 0), (fun _ => 0), 0, 0, e2, wfO_no, rT_no, fun i hi => absurd hi (Nat.not_lt_zero _), rJ_no, ⟨by decide, fun i hi => absurd hi (Nat.not_lt_zero _)⟩, rSl_no (fun _ => rfl), fun i hi => absurd hi (Nat.not_lt_zero _)⟩)
theorem c_X9_initR (l : Launch) (G : GG) (h : Nat)  : MT l G yX9_init cX9_init 1 none 1 25 27068 [.ref h] [(h, .inr (9, [.int 0, .null, .null, .null, .int 0, .null, .null, .null, .int 0, .int 0, .int 0, .int 0, .int 0, .int 0, .int 0, .int 0, .int 0, .null, .int 0, .int 0, .int 0, .null, .null, .null, .null, .null, .null, .null, .null, .null, .int 0, .null, .null, .null, .null, .null, .null, .null, .null, .int 0, .int 0, .null, .int 0]))] (fun v9 ws9 => ∃ (w2 : va_W), v9 = none ∧ ws9 = ((w2)) ∧ RMX G h w2 noX) := (c_X9_init l G h).imp (fun v w ⟨e1, e2⟩ => ⟨w, e1, rfl, e2⟩)
theorem RX_recv {G : GG} {h : Nat} {w : va_W} {X : SX} (hR : RX G h w X) : ∃ fs, w[0]? = some (h, .inr (8, fs)) := RX_elim hR (fun s a p hi rg sl o e e2 fs fk fn ft fj cs ck cn cj cb cc cw ct x1 x2 x3 x4 x5 x6 x7 x8 x9 y1 y2 y3 y4 fg fp u1 u2 hw hO hT hR hJ hH hL hP => by subst hw; exact ⟨_, rfl⟩)
theorem RMX_recv {G : GG} {h : Nat} {w : va_W} {X : SX} (hR : RMX G h w X) : ∃ fs, w[0]? = some (h, .inr (9, fs)) := RMX_elim hR (fun a v f1 f2 f3 f5 f6 f7 f17 f21 f22 f23 f24 f25 f26 f27 f28 f29 f31 f32 f33 f34 f35 f36 f37 f38 f41 hw hh hO hS hU hUn hSl hPd h18 => by subst hw; subst hh; exact ⟨_, rfl⟩)
