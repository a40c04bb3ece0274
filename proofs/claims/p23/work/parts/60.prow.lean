/-! ROWS that the law wants besides: longs, a constant, a method that reads the script -/
section ROWS2
variable {κ : KX} {cc : ByteArray} {own : String} {nL : Nat} {Rm : Room} {c n pc nx : Nat} {ws : va_W} {lo lo2 : List (Nat × Value)} {rest : List Value}
theorem w_ldc (C : CT κ cc own nL Rm) (v : Int32) {i : Nat} (hd : decode cc pc = .ok (.ldc i, 2)) (hn : pc + 2 = nx) (hw : Cond.constant own i v ∈ TBL) (k : WW κ c n ws nx lo (.int v :: rest)) : WW κ c n ws pc lo rest := by
  subst hn
  intro H locs ls hP hD hS hl
  exact lv_ldc C.1 C.2.1 C.2.2.2.1 (C.2.2.2.2.1 _ hw) hd (k H locs ls hP hD hS hl)
theorem w_ladd (C : CT κ cc own nL Rm) {x y : Int64} (v : Int64) (hd : decode cc pc = .ok (.ladd, 1)) (hn : pc + 1 = nx) (hv : x + y = v) (k : WW κ c n ws nx lo (.long v :: rest)) : WW κ c n ws pc lo (.long y :: .long x :: rest) := by
  subst hv; subst hn
  intro H locs ls hP hD hS hl
  exact lv_ladd C.1 C.2.1 hd (k H locs ls hP hD hS hl)
theorem w_lmul (C : CT κ cc own nL Rm) {x y : Int64} (v : Int64) (hd : decode cc pc = .ok (.lmul, 1)) (hn : pc + 1 = nx) (hv : x * y = v) (k : WW κ c n ws nx lo (.long v :: rest)) : WW κ c n ws pc lo (.long y :: .long x :: rest) := by
  subst hv; subst hn
  intro H locs ls hP hD hS hl
  exact lv_lmul C.1 C.2.1 hd (k H locs ls hP hD hS hl)
theorem w_if_ge (C : CT κ cc own nL Rm) {x : Int32} {o : Int} {tg : Nat} (hd : decode cc pc = .ok (.ifCond .ge o, 3)) (ht : (pc : Int) + o = (tg : Int)) (hn : pc + 3 = nx) (kt : 0 ≤ x → WW κ c n ws tg lo rest) (kf : ¬ 0 ≤ x → WW κ c n ws nx lo rest) : WW κ c n ws pc lo (.int x :: rest) := by
  subst hn
  intro H locs ls hP hD hS hl
  exact lv_if_ge C.1 C.2.1 hd ht (fun h => kt h H locs ls hP hD hS hl) (fun h => kf h H locs ls hP hD hS hl)
theorem w_lret (C : CT κ cc own nL Rm) {ret : Option FieldType} {R : Option Value → va_W → Prop} {mc ms : Nat} (E : CR κ ret R mc ms) {v : Int64} (hd : decode cc pc = .ok (.lreturn, 1)) (hr : ret = some .long) (hc : c ≤ mc) (hs : n ≤ ms) (hR : R (some (.long v)) ws) : WW κ c n ws pc lo [.long v] := by
  intro H locs ls hP hD hS hl
  rw [E.2.2]
  exact W.widen hc hs (W.lret C.1 C.2.1 (E.1.trans hr) (fun t ht hW => ⟨⟨_, ws, rfl, hR, by rw [ht]; exact hP, hD⟩, hS.F ht⟩) hS.2.2 hd E.2.1)
/-- a method that reads the script b, and nothing else -/
def MTS (b L : Nat) (xs : Nat → Int32) (l : Launch) (G : GG) (y : MethodName) (bytes : ByteArray) (maxL : Nat) (ret : Option FieldType) (k : Nat) (av : List Value) (R : Option Value → va_W → Prop) : Prop :=
  ∀ sz : Nat, Met l y (.code y bytes maxL ret :: TBL) (RM k 0 0) (va_Pc av (fun U => (U.heap.size = sz ∧ va_P G.1 vwCl [] U.heap ∧ KN G U ∧ va_D (fun _ => True) []) ∧ va_X b L xs U U.heap ∧ b < U.heap.size)) (MPost G R (va_A [] sz)) 0 0 (va_A [] sz)
theorem MTS.of {b L : Nat} {xs : Nat → Int32} {l : Launch} {G : GG} {y : MethodName} {bytes : ByteArray} {maxL : Nat} {ret : Option FieldType} {k : Nat} {av : List Value} {R : Option Value → va_W → Prop} (own : String) (lo : List (Nat × Value)) (hy : plainName y.cls = true) (hown : y.cls = own) (hlo : lv_args 0 av = lo) (hn : (lg_sl av).length ≤ maxL)
    (body : ∀ κ : KX, CT κ bytes own maxL (RM k 0 0) → CR κ ret R 0 0 → kl κ = l → kG κ = G → va_X b L xs (ks κ) (ks κ).heap → b < (ks κ).heap.size → ¬ kA κ b → WW κ 0 0 [] 0 lo []) : MTS b L xs l G y bytes maxL ret k av R := by
  intro sz
  refine Met.ofW (cc := bytes) (maxL := maxL) (ret := ret) hy rfl ?_
  intro p e s m args below meth c s₁ B hml hv
  obtain ⟨rfl, ⟨hsz, hP, hK, hD0⟩, hX, hb⟩ := hv
  have hts := atoms_spec (ws := .code y bytes maxL ret :: TBL) B.pre
  have hown2 : s.vm.findClass own = some m.cls := by rw [← hown]; exact findClass_of_methodNamed B.named
  subst hsz
  have hD := hD0.self (sz := s.heap.size)
  have hl := lv_entry av (n := maxL) hn
  rw [hlo] at hl
  rw [lg_entry_eq]
  refine body (p, l, e, RM k 0 0, s, m, av.toArray, below, meth, c, G, va_A [] s.heap.size, MQ below (MPost G R (va_A [] s.heap.size)) av.toArray s 0 0 (va_A [] s.heap.size)) ⟨B.exec, B.bytes, hml, hown2, fun w hw => hts w (List.mem_cons_of_mem _ hw), hK, fun q h => Or.inr h, rfl⟩ ⟨B.returns, B.notSynchronized, rfl⟩ rfl rfl hX hb (fun h => ?_) s.heap [] _ hP hD va_S.rf (by show lv_has _ c.maxLocals lo; rw [hml]; exact hl)
  rcases h with ⟨j, e, h⟩ | h
  · simp at h
  · exact Nat.not_le.mpr hb h
theorem pcS_blind {b L : Nat} {xs : Nat → Int32} {G : GG} {av : List Value} {sz : Nat} : FrameBlind (va_Pc av (fun U => (U.heap.size = sz ∧ va_P G.1 vwCl [] U.heap ∧ KN G U ∧ va_D (fun _ => True) []) ∧ va_X b L xs U U.heap ∧ b < U.heap.size)) := fun a U g mk q => by
  obtain ⟨q0, ⟨q1, qP, qK, qD⟩, qX, qb⟩ := q
  exact ⟨q0, ⟨q1, qP, qK.frame, qD⟩, va_X.moved (u := U) (U := U.calling g mk a) (Vm.Alike.refl U.vm) qX, qb⟩
/-- a call's end, where the callee is told more of the heap -/
theorem w_goOnS (C : CT κ cc own nL Rm) {st : List Value} {mc ms : Nat} {wc wr : va_W} {R' : Option Value → va_W → Prop} {a : Array Value} (hsp : ws.Perm (wc ++ wr)) (hr : ∀ (H : Heap) (locs : List Loc) (ls : Array Slot), va_P (kG κ).1 vwCl wc H → va_D (fun _ => True) wc → va_S (kA κ) (ks κ).heap H locs → ls.size = nL → va_Run (kp κ) (kl κ) (ke κ) (kR κ) (ks κ) (km κ) (ka κ) (kb κ) (kh κ) (kc κ) H locs c n mc ms (F0 (km κ) pc ls st) rest (MPost (kG κ) R' (va_A wc H.size) a) (va_A wc H.size))
    (kk : ∀ (v : Option Value) (ws' : va_W), R' v ws' → WW κ (c + mc) (n + ms) (ws' ++ wr) (pc + 3) lo (v.toList ++ rest)) : WW κ c n ws pc lo st := by
  intro H locs ls hP hD hS hl T hT X
  have hP2 := pP_perm hsp hP
  have hD2 := pD_perm hsp hD
  obtain ⟨v, st₀, t, T', L, h0, X', hL, e1, e2, ⟨⟨v', ws', hv, hR, hP1, hD1⟩, hz, hk⟩, st⟩ := hr H locs ls (pP_app hP2).1 ((pD_app hD2).1.weaken (fun _ _ _ _ => trivial)) hS (hl.1.trans C.2.2.1) T hT X
  cases hv
  rw [h0] at hz hk
  have hF : ∀ q, va_A wc H.size q → kA κ q := by
    intro q h
    rcases h with ⟨k, e, h⟩ | h
    · exact (pD_app hD2).1.2 k (q, e) h
    · exact C.2.2.2.2.2.2.1 q (Nat.le_trans hS.1 h)
  obtain ⟨hP3, hD3⟩ := pd_join hP2 hD2 hk hF hP1 hD1
  obtain ⟨t2, a1, b1⟩ := kk v ws' hR T'.heap (locs ++ L) ls (by rw [e1]; exact hP3) hD3 ⟨Nat.le_trans hS.1 (by rw [e1]; exact hz), fun q h1 h2 => by rw [e1, hk q (Nat.lt_of_lt_of_le h1 hS.1) (fun z => h2 (hF q z))]; exact hS.2.1 q h1 h2, fun q hq => by
      rcases List.mem_append.mp hq with h | h
      · exact hS.2.2 q h
      · exact hF _ (hL q h)⟩ hl T' rfl X'
  exact ⟨t2, st t2 a1, b1⟩
/-- it is called: the world stays as it is -/
theorem w_callSR (C : CT κ cc own nL Rm) {y : MethodName} {bytes : ByteArray} {maxL : Nat} {ret : Option FieldType} {k ix nA b L : Nat} {xs : Nat → Int32} {As : List Value} {st : List Value} {R' : Option Value → va_W → Prop} (hX : va_X b L xs (ks κ) (ks κ).heap) (hbl : b < (ks κ).heap.size) (hbA : ¬ kA κ b) (M : MS y bytes maxL ret nA) (hM : MTS b L xs (kl κ) (kG κ) y bytes maxL ret k As R')
    (hd : decode cc pc = .ok (.invokestatic ix, 3)) (hn : pc + 3 = nx) (hw : Cond.methodLink own ix y ∈ TBL) (how : y.cls = own) (hst : st = As.reverse ++ rest) (hlen : As.length = nA) (hcat : (rest.map fun v => v.category).sum ≤ 8) (hf : k + 1 ≤ Rm.frames) (hlc : 8 + (maxL + 11) + 64 * k ≤ Rm.locals) (hc : c ≤ Rm.cells) (hs : n ≤ Rm.slots)
    (kk : ∀ (v : Option Value) (w9 : va_W), R' v w9 → WW κ c n (w9 ++ ws) nx lo (v.toList ++ rest)) : WW κ c n ws pc lo st := by
  subst hn; subst hst
  refine w_goOnS C (mc := 0) (ms := 0) (wc := []) (wr := ws) (rest := rest) (a := As.toArray) (R' := R') (List.Perm.refl _) (fun H locs ls hP hD hS hl => ?_) kk
  refine va_runS (Ts := TBL) (n := nA) (own := own) ⟨C.1, C.2.1, C.2.2.1, C.2.2.2.1, C.2.2.2.2.1⟩ (hM H.size) (cwS nA C.2.2.2.2.1 (good_tbl (fun w h => ?_)) rfl rfl rfl ⟨how, M.2.2.2⟩ ⟨by rw [C.2.2.2.2.2.2.2]; exact hf, by rw [C.2.2.2.2.2.2.2]; exact hlc⟩) ⟨pcS_blind, fun U hU hW => ⟨rfl, ⟨by rw [hU], by rw [hU]; exact hP, C.2.2.2.2.2.1.warm hW, hD⟩, by rw [hU]; exact va_X.moved hW.alike (va_X.kept hX (hS.2.1 b hbl hbA)), by rw [hU]; exact Nat.lt_of_lt_of_le hbl hS.1⟩⟩ rfl hlen hl rfl (lv_room hcat) hd ⟨by rw [C.2.2.2.2.2.2.2]; exact hc, by rw [C.2.2.2.2.2.2.2]; exact hs⟩
  simp only [wsS, List.mem_append, List.mem_cons, List.not_mem_nil, or_false] at h
  rcases h with (h | h | h) | h | h
  · rw [h]; exact hw
  · rw [h]; exact M.1
  · rw [h, ← how]; exact M.2.1
  · rw [h]; exact M.2.2.1
  · exact h
end ROWS2
