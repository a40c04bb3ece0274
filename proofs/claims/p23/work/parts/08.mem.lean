/-! ROWS on memory, calls and ends -/
/-- a class's fields, by its place among the classes -/
def FC (ci : Nat) (Cn : String) (Tn : u_T) (N : Nat) (ty : Nat → FieldType) : Prop := vwCl[ci]? = some (Cn, Tn, N) ∧ (∀ w ∈ u_ws Cn Tn N, w ∈ TBL) ∧ (∀ k, k < N → parseFieldDescriptor (Tn k).2.2.1 = some (ty k)) ∧ ∀ a, a < N → ∀ b, b < N → a ≠ b → (Tn a).2.1 ≠ (Tn b).2.1
theorem fc0 : FC 0 RX0 TX0 11 tyX0 := ⟨rfl, wf_X0, tyX0_ok, nmX0⟩
theorem fc1 : FC 1 RX1 TX1 5 tyX1 := ⟨rfl, wf_X1, tyX1_ok, nmX1⟩
theorem fc2 : FC 2 RX2 TX2 3 tyX2 := ⟨rfl, wf_X2, tyX2_ok, nmX2⟩
theorem fc3 : FC 3 RX3 TX3 4 tyX3 := ⟨rfl, wf_X3, tyX3_ok, nmX3⟩
theorem fc4 : FC 4 RX4 TX4 4 tyX4 := ⟨rfl, wf_X4, tyX4_ok, nmX4⟩
theorem fc5 : FC 5 RX5 TX5 5 tyX5 := ⟨rfl, wf_X5, tyX5_ok, nmX5⟩
theorem fc6 : FC 6 RX6 TX6 3 tyX6 := ⟨rfl, wf_X6, tyX6_ok, nmX6⟩
theorem fc7 : FC 7 RX7 TX7 1 tyX7 := ⟨rfl, wf_X7, tyX7_ok, nmX7⟩
theorem fc8 : FC 8 RX8 TX8 5 tyX8 := ⟨rfl, wf_X8, tyX8_ok, nmX8⟩
section MEM
variable {κ : KX} {cc : ByteArray} {own : String} {nL : Nat} {Rm : Room} {c n pc nx : Nat} {ws ws2 : va_W} {lo : List (Nat × Value)} {rest : List Value}
theorem w_get (C : CT κ cc own nL Rm) {ci : Nat} {Cn : String} {Tn : u_T} {N : Nat} {ty : Nat → FieldType} (F : FC ci Cn Tn N ty) {ix a : Nat} {fs : List Value} {rf nm ds : String} {fin : Bool} (v : Value) (q0 k : Nat) (hd : decode cc pc = .ok (.getfield ix, 3)) (hn : pc + 3 = nx) (hw : Cond.fieldLink own ix rf nm ds ∈ TBL) (he : ws[q0]? = some (a, .inr (ci, fs))) (hk : k < N) (hT : Tn k = (rf, nm, ds, fin)) (hv : fs[k]? = some v) (kk : WW κ c n ws nx lo (v :: rest)) : WW κ c n ws pc lo (.ref a :: rest) := by
  subst hn
  intro H locs ls hP hD hS hl
  exact va_get C.1 C.2.1 (Ts := TBL) (C := Cn) (T := Tn) (N := N) (ref := rf) C.2.2.2.2.1 F.2.1 C.2.2.2.1 C.2.2.2.2.2.1.1 hP q0 he F.1 k hk (by rw [hT]; exact C.2.2.2.2.1 _ hw) (fun x h => by rw [hT] at h ⊢; exact h) hv hd (kk H locs ls hP hD hS hl)
theorem w_put (C : CT κ cc own nL Rm) {ci : Nat} {Cn : String} {Tn : u_T} {N : Nat} {ty : Nat → FieldType} (F : FC ci Cn Tn N ty) {ix a : Nat} {fs : List Value} {rf nm ds : String} {v : Value} (q0 k : Nat) (hd : decode cc pc = .ok (.putfield ix, 3)) (hn : pc + 3 = nx) (hw : Cond.fieldLink own ix rf nm ds ∈ TBL) (he : ws[q0]? = some (a, .inr (ci, fs))) (hk : k < N) (hT : Tn k = (rf, nm, ds, false)) (hv : narrow (ty k) v = v) (hf : fits (ty k) v = true) (hlen : k < fs.length) (hws : ws.set q0 (a, .inr (ci, fs.set k v)) = ws2) (kk : WW κ c n ws2 nx lo rest) : WW κ c n ws pc lo (v :: .ref a :: rest) := by
  subst hn; subst hws
  intro H locs ls hP hD hS hl
  exact va_put C.1 C.2.1 (Ts := TBL) (C := Cn) (T := Tn) (N := N) (ref := rf) C.2.2.2.2.1 F.2.1 ty F.2.2.1 F.2.2.2 C.2.2.2.1 C.2.2.2.2.2.1.1 hP hD hS q0 he F.1 k hk (by rw [hT]; exact C.2.2.2.2.1 _ hw) (fun x h => by rw [hT] at h ⊢; exact h) (by rw [hT]) (F.2.2.1 k hk) hv hf hlen hd (fun H1 locs1 hP1 hD1 hS1 => kk H1 locs1 ls hP1 hD1 hS1 hl)
theorem w_putF (C : CT κ cc own nL Rm) {ci : Nat} {Cn : String} {Tn : u_T} {N : Nat} {ty : Nat → FieldType} (F : FC ci Cn Tn N ty) {ix a : Nat} {fs : List Value} {nm ds : String} {v : Value} (q0 k : Nat) (hnm : (kh κ).name = "<init>") (hd : decode cc pc = .ok (.putfield ix, 3)) (hn : pc + 3 = nx) (hw : Cond.fieldLink own ix own nm ds ∈ TBL) (he : ws[q0]? = some (a, .inr (ci, fs))) (hk : k < N) (hT : Tn k = (own, nm, ds, true)) (hv : narrow (ty k) v = v) (hf : fits (ty k) v = true) (hlen : k < fs.length) (hws : ws.set q0 (a, .inr (ci, fs.set k v)) = ws2) (kk : WW κ c n ws2 nx lo rest) : WW κ c n ws pc lo (v :: .ref a :: rest) := by
  subst hn; subst hws
  intro H locs ls hP hD hS hl
  exact va_putF C.1 C.2.1 (Ts := TBL) (C := Cn) (T := Tn) (N := N) (ref := own) C.2.2.2.2.1 F.2.1 ty F.2.2.1 F.2.2.2 C.2.2.2.1 C.2.2.2.2.2.1.1 hP hD hS q0 he F.1 k hk (by rw [hT]; exact C.2.2.2.2.1 _ hw) (fun x h => by rw [hT] at h ⊢; exact h) (by rw [hT]) hnm (by rw [hT]) (F.2.2.1 k hk) hv hf hlen hd (fun H1 locs1 hP1 hD1 hS1 => kk H1 locs1 ls hP1 hD1 hS1 hl)
theorem w_new (C : CT κ cc own nL Rm) {ci : Nat} {Cn : String} {Tn : u_T} {N : Nat} {ty : Nat → FieldType} (F : FC ci Cn Tn N ty) {ix : Nat} (fs : List Value) (hd : decode cc pc = .ok (.new ix, 3)) (hn : pc + 3 = nx) (hw : Cond.classLink own ix Cn ∈ TBL) (hi : Cond.instantiable Cn N ∈ TBL) (hini : Cond.initialized Cn ∈ TBL) (hfs : ∀ j, j < N → defaultValue (ty j) = vp_V fs j) (hc : c + 1 ≤ Rm.cells) (hs : n + N ≤ Rm.slots) (kk : ∀ q : Nat, WW κ (c + 1) (n + N) ((q, .inr (ci, fs)) :: ws) nx lo (.ref q :: rest)) : WW κ c n ws pc lo rest := by
  subst hn
  intro H locs ls hP hD hS hl
  refine va_new C.1 C.2.1 (Ts := TBL) (C := Cn) (T := Tn) (N := N) C.2.2.2.2.1 F.2.1 ty F.2.2.1 C.2.2.2.1 (C.2.2.2.2.1 _ hw) (C.2.2.2.2.1 _ hi) (C.2.2.2.2.1 _ hini) C.2.2.2.2.2.1.1 hP hD hS C.2.2.2.2.2.2.1 F.1 hfs (by rw [C.2.2.2.2.2.2.2]; exact hc) (by rw [C.2.2.2.2.2.2.2]; exact hs) hd (fun q H1 hP1 hD1 hS1 => ?_)
  exact kk q H1 locs ls (pP_perm (List.perm_append_singleton _ _) hP1) (pD_perm (List.perm_append_singleton _ _) hD1) hS1 hl
theorem gT_ra {G : GG} {U : State} {t0 : Nat} {cA : ClassId} {ty : FieldType} (hK : KN G U) (ht : (gT G)[t0]? = some (cA, ty)) : ArrOfT U cA ty ∧ va_RA U cA ty := hK.1.2 t0 _ ht
/-- a new array of ints, chars or booleans: it is of the class that is known -/
theorem w_newa (C : CT κ cc own nL Rm) {at' : ArrayType} {ty : FieldType} (hty : newarray.typeOf at' = ty) (t0 : Nat) {cA : ClassId} (ht : (gT (kG κ))[t0]? = some (cA, ty)) (hra : va_RA (ks κ) cA ty → (ks κ).vm.findClass ("[" ++ ty.toString) = some cA) (hdf : defaultValue ty = .int 0) (hw : Cond.arrayClass ty ∈ TBL) (N : Nat) {x : Int32} (hd : decode cc pc = .ok (.newarray at', 2)) (hn : pc + 2 = nx) (hx : x = nI N) (hN : N < 2 ^ 24) (hby : componentBytes ty ≤ 8) (hc : c + 1 ≤ Rm.cells) (hs : n + N ≤ Rm.slots) (kk : ∀ q : Nat, WW κ (c + 1) (n + N) ((q, .inl (cA, N, .inl (fun _ => 0))) :: ws) nx lo (.ref q :: rest)) : WW κ c n ws pc lo (.int x :: rest) := by
  subst hn; subst hx; subst hty
  intro H locs ls hP hD hS hl
  have hK := C.2.2.2.2.2.1
  have hA := C.2.2.2.2.2.2.1
  refine va_newaK C.1 C.2.1 (C.2.2.2.2.1 _ hw) rfl hd rfl (nI_pos (by omega)) (nI_clamp (by omega)) ?_ (by rw [C.2.2.2.2.2.2.2]; exact hc) (by rw [C.2.2.2.2.2.2.2]; exact hs) rfl fun H1 cA1 e1 z1 o1 hAr hNm => ?_
  · exact Nat.le_trans (Nat.mul_le_mul (Nat.le_of_lt hN) hby) (by decide)
  · have hcA : cA1 = cA := Option.some.inj (hNm.symm.trans (hra (gT_ra hK ht).2))
    subst hcA
    have hk : ∀ q ∈ ws, H1[q.1]? = H[q.1]? := fun q hq => o1 q.1 ((pP_mem.mp hP q hq).lt)
    have hP1 : va_P (kG κ).1 vwCl (ws ++ [(H.size, .inl (cA1, N, .inl (fun _ => 0)))]) H1 := by
      refine pP_mem.mpr fun q hq => ?_
      rcases List.mem_append.mp hq with h | h
      · exact (pP_mem.mp hP q h).kept (hk q h)
      · rw [List.mem_singleton.mp h]
        show H1[H.size]? = some (vp_cell _ _)
        rw [e1, hdf]
        rfl
    exact kk H.size H1 locs ls (pP_perm (List.perm_append_singleton _ _) hP1) (pD_perm (List.perm_append_singleton _ _) (hD.push hP rfl (hA _ hS.1))) ⟨Nat.le_trans hS.1 (by omega), fun x h1 h2 => (o1 x (Nat.lt_of_lt_of_le h1 hS.1)).trans (hS.2.1 x h1 h2), hS.2.2⟩ hl
/-- a new array of states -/
theorem w_newq (C : CT κ cc own nL Rm) {ix : Nat} (N : Nat) {x : Int32} (hd : decode cc pc = .ok (.anewarray ix, 3)) (hn : pc + 3 = nx) (hw : Cond.classLink own ix RX5 ∈ TBL) (hx : x = nI N) (hN : N < 2 ^ 24) (hc : c + 1 ≤ Rm.cells) (hs : n + N ≤ Rm.slots) (kk : ∀ q : Nat, WW κ (c + 1) (n + N) ((q, aS (kG κ) N (fun _ => none)) :: ws) nx lo (.ref q :: rest)) : WW κ c n ws pc lo (.int x :: rest) := by
  subst hn; subst hx
  intro H locs ls hP hD hS hl
  have hK := C.2.2.2.2.2.1
  refine va_newq C.1 C.2.1 (C := RX5) C.2.2.2.1 (C.2.2.2.2.1 _ hw) hK.2.2 hK.1 hP hD hS C.2.2.2.2.2.2.1 (nI_pos (by omega)) (nI_clamp (by omega)) (by omega) (by rw [C.2.2.2.2.2.2.2]; exact hc) (by rw [C.2.2.2.2.2.2.2]; exact hs) hd fun q cA1 H1 hK1 hP1 hD1 hS1 => ?_
  have h4 : (gT (kG κ) ++ [(cA1, FieldType.object RX5)])[4]? = some (cA1, .object RX5) := rfl
  obtain ⟨-, -, -, -, -, f1⟩ := (hK1.2 4 _ h4).2
  obtain ⟨-, -, -, -, -, f2⟩ := (gT_ra (t0 := 3) (cA := cS (kG κ)) (ty := .object RX5) hK rfl).2
  have hcA : cA1 = cS (kG κ) := Option.some.inj (f1.symm.trans f2)
  subst hcA
  exact kk q H1 locs ls (pP_perm (List.perm_append_singleton _ _) hP1) (pD_perm (List.perm_append_singleton _ _) hD1) hS1 hl
theorem w_iald (C : CT κ cc own nL Rm) {a m : Nat} {f : Nat → Int32} {x : Int32} (v : Int32) (q0 i : Nat) (hd : decode cc pc = .ok (.iaload, 1)) (hn : pc + 1 = nx) (he : ws[q0]? = some (a, aI (kG κ) m f)) (hm : m < 2 ^ 31) (hx : x = nI i) (hi : i < m) (hv : f i = v) (kk : WW κ c n ws nx lo (.int v :: rest)) : WW κ c n ws pc lo (.int x :: .ref a :: rest) := by
  subst hn; subst hx; subst hv
  intro H locs ls hP hD hS hl
  refine va_iald C.1 C.2.1 C.2.2.2.2.2.1.1 hP q0 0 he rfl (vp_in_nI hi hm) hd ?_
  rw [nI_clamp (by omega)]
  exact kk H locs ls hP hD hS hl
theorem w_cald (C : CT κ cc own nL Rm) {a m : Nat} {f : Nat → Int32} {x : Int32} (v : Int32) (q0 i : Nat) (hd : decode cc pc = .ok (.caload, 1)) (hn : pc + 1 = nx) (he : ws[q0]? = some (a, aC (kG κ) m f)) (hm : m < 2 ^ 31) (hx : x = nI i) (hi : i < m) (hv : f i = v) (kk : WW κ c n ws nx lo (.int v :: rest)) : WW κ c n ws pc lo (.int x :: .ref a :: rest) := by
  subst hn; subst hx; subst hv
  intro H locs ls hP hD hS hl
  refine va_cald C.1 C.2.1 C.2.2.2.2.2.1.1 hP q0 1 he rfl (vp_in_nI hi hm) hd ?_
  rw [nI_clamp (by omega)]
  exact kk H locs ls hP hD hS hl
theorem w_aald (C : CT κ cc own nL Rm) {a m : Nat} {f : Nat → Option Nat} {x : Int32} (v : Value) (q0 i : Nat) (hd : decode cc pc = .ok (.aaload, 1)) (hn : pc + 1 = nx) (he : ws[q0]? = some (a, aS (kG κ) m f)) (hm : m < 2 ^ 31) (hx : x = nI i) (hi : i < m) (hv : va_rf (f i) = v) (kk : WW κ c n ws nx lo (v :: rest)) : WW κ c n ws pc lo (.int x :: .ref a :: rest) := by
  subst hn; subst hx; subst hv
  intro H locs ls hP hD hS hl
  refine va_aldq (C := RX5) C.1 C.2.1 C.2.2.2.2.2.1.1 hP q0 3 he rfl (vp_in_nI hi hm) hd ?_
  rw [nI_clamp (by omega)]
  exact kk H locs ls hP hD hS hl
theorem w_iast (C : CT κ cc own nL Rm) {a m : Nat} {f : Nat → Int32} {x v : Int32} (q0 i : Nat) (hd : decode cc pc = .ok (.iastore, 1)) (hn : pc + 1 = nx) (he : ws[q0]? = some (a, aI (kG κ) m f)) (hm : m < 2 ^ 31) (hx : x = nI i) (hi : i < m) (hws : ws.set q0 (a, aI (kG κ) m (upd f i v)) = ws2) (kk : WW κ c n ws2 nx lo rest) : WW κ c n ws pc lo (.int v :: .int x :: .ref a :: rest) := by
  subst hn; subst hx; subst hws
  intro H locs ls hP hD hS hl
  refine va_iast C.1 C.2.1 C.2.2.2.2.2.1.1 hP hD hS q0 0 he rfl (vp_in_nI hi hm) hd fun H1 locs1 hP1 hD1 hS1 => ?_
  rw [nI_clamp (by omega)] at hP1 hD1
  exact kk H1 locs1 ls hP1 hD1 hS1 hl
theorem w_cast (C : CT κ cc own nL Rm) {a m : Nat} {f : Nat → Int32} {x v : Int32} (v2 : Int32) (q0 i : Nat) (hd : decode cc pc = .ok (.castore, 1)) (hn : pc + 1 = nx) (he : ws[q0]? = some (a, aC (kG κ) m f)) (hm : m < 2 ^ 31) (hx : x = nI i) (hi : i < m) (hv : vp_nar .char v = v2) (hws : ws.set q0 (a, aC (kG κ) m (upd f i v2)) = ws2) (kk : WW κ c n ws2 nx lo rest) : WW κ c n ws pc lo (.int v :: .int x :: .ref a :: rest) := by
  subst hn; subst hx; subst hws; subst hv
  intro H locs ls hP hD hS hl
  refine va_cast C.1 C.2.1 C.2.2.2.2.2.1.1 hP hD hS q0 1 he rfl (vp_in_nI hi hm) hd fun H1 locs1 hP1 hD1 hS1 => ?_
  rw [nI_clamp (by omega)] at hP1 hD1
  exact kk H1 locs1 ls hP1 hD1 hS1 hl
theorem w_aast (C : CT κ cc own nL Rm) {a m v : Nat} {f : Nat → Option Nat} {x : Int32} {vs : List Value} (q0 qk i : Nat) (hd : decode cc pc = .ok (.aastore, 1)) (hn : pc + 1 = nx) (he : ws[q0]? = some (a, aS (kG κ) m f)) (hv : ws[qk]? = some (v, .inr (5, vs))) (hm : m < 2 ^ 31) (hx : x = nI i) (hi : i < m) (hws : ws.set q0 (a, aS (kG κ) m (va_up f i (some v))) = ws2) (kk : WW κ c n ws2 nx lo rest) : WW κ c n ws pc lo (.ref v :: .int x :: .ref a :: rest) := by
  subst hn; subst hx; subst hws
  intro H locs ls hP hD hS hl
  refine va_astq (r := (RX5, TX5, 5)) C.1 C.2.1 C.2.2.2.2.2.1.1 hP hD hS q0 3 qk 5 he rfl hv rfl (vp_in_nI hi hm) hd fun H1 locs1 hP1 hD1 hS1 => ?_
  rw [nI_clamp (by omega)] at hP1 hD1
  exact kk H1 locs1 ls hP1 hD1 hS1 hl
theorem w_alen (C : CT κ cc own nL Rm) {a m : Nat} {f : Nat → Int32} (v : Int32) (q0 : Nat) (hd : decode cc pc = .ok (.arraylength, 1)) (hn : pc + 1 = nx) (he : ws[q0]? = some (a, aI (kG κ) m f)) (hv : nI m = v) (kk : WW κ c n ws nx lo (.int v :: rest)) : WW κ c n ws pc lo (.ref a :: rest) := by
  subst hn; subst hv
  intro H locs ls hP hD hS hl
  exact va_alen C.1 C.2.1 C.2.2.2.2.2.1.1 hP q0 0 he rfl rfl hd (kk H locs ls hP hD hS hl)
theorem w_copy (C : CT κ cc own nL Rm) {ix a a0 m0 m1 : Nat} {f g : Nat → Int32} {x y z : Int32} (q0 q1 sp dp k : Nat) (hd : decode cc pc = .ok (.invokestatic ix, 3)) (hn : pc + 3 = nx) (hw : Cond.methodLink own ix arraycopyName ∈ TBL) (he0 : ws[q0]? = some (a0, aI (kG κ) m0 f)) (he1 : ws[q1]? = some (a, aI (kG κ) m1 g)) (hm0 : m0 < 2 ^ 31) (hm1 : m1 < 2 ^ 31) (hx : x = nI sp) (hy : y = nI dp) (hz : z = nI k) (h4 : sp + k ≤ m0) (h5 : dp + k ≤ m1) (hf : 1 ≤ Rm.frames) (hlc : (rest.map fun v => v.category).sum + (nativeFrameWords "java/lang/System" "arraycopy" 5 + 11) ≤ Rm.locals) (hws : ws.set q1 (a, aI (kG κ) m1 (va_cpy f g sp dp k)) = ws2) (kk : WW κ c n ws2 nx lo rest) : WW κ c n ws pc lo (.int z :: .int y :: .ref a :: .int x :: .ref a0 :: rest) := by
  subst hn; subst hws; subst hx; subst hy; subst hz
  intro H locs ls hP hD hS hl
  have e1 : (nI sp).toNatClampNeg = sp := nI_clamp (by omega)
  have e2 : (nI dp).toNatClampNeg = dp := nI_clamp (by omega)
  have e3 : (nI k).toNatClampNeg = k := nI_clamp (by omega)
  refine va_copyi C.1 C.2.1 hl.1.symm C.2.2.2.1 (C.2.2.2.2.1 _ hw) (C.2.2.2.2.1 _ wv_copy) (C.2.2.2.2.1 _ wt_copy) (C.2.2.2.2.1 _ wi_System) C.2.2.2.2.2.1.1 hP hD hS q0 q1 0 0 he0 he1 rfl rfl rfl (nI_pos (by omega)) (nI_pos (by omega)) (nI_pos (by omega)) (by rw [e1, e3]; exact h4) (by rw [e2, e3]; exact h5) (fun i _ => rfl) (by rw [C.2.2.2.2.2.2.2]; exact hf) (by rw [C.2.2.2.2.2.2.2]; exact hlc) hd fun H1 locs1 hP1 hD1 hS1 => ?_
  rw [e1, e2, e3] at hP1 hD1
  exact kk H1 locs1 ls hP1 hD1 hS1 hl
theorem w_max (C : CT κ cc own nL Rm) {ix : Nat} {x y : Int32} (v : Int32) (hd : decode cc pc = .ok (.invokestatic ix, 3)) (hn : pc + 3 = nx) (hw : Cond.methodLink own ix Lib.Math.max.name ∈ TBL) (hf : 1 ≤ Rm.frames) (hlc : (rest.map fun v => v.category).sum + 13 ≤ Rm.locals) (hc : c ≤ Rm.cells) (hs : n ≤ Rm.slots) (hv : (if x < y then y else x) = v) (kk : WW κ c n ws nx lo (.int v :: rest)) : WW κ c n ws pc lo (.int y :: .int x :: rest) := by
  subst hn; subst hv
  intro H locs ls hP hD hS hl
  exact va_mmax C.1 C.2.1 hl.1.symm C.2.2.2.1 (C.2.2.2.2.1 _ hw) (C.2.2.2.2.1 _ wt_Math_max) (C.2.2.2.2.1 _ wi_Math) (C.2.2.2.2.1 _ wc_Math_max) (by rw [C.2.2.2.2.2.2.2]; exact hf) (by rw [C.2.2.2.2.2.2.2]; exact hlc) (by rw [C.2.2.2.2.2.2.2]; exact hc) (by rw [C.2.2.2.2.2.2.2]; exact hs) hd (kk H locs ls hP hD hS hl)
theorem w_min (C : CT κ cc own nL Rm) {ix : Nat} {x y : Int32} (v : Int32) (hd : decode cc pc = .ok (.invokestatic ix, 3)) (hn : pc + 3 = nx) (hw : Cond.methodLink own ix Lib.Math.min.name ∈ TBL) (hf : 1 ≤ Rm.frames) (hlc : (rest.map fun v => v.category).sum + 13 ≤ Rm.locals) (hc : c ≤ Rm.cells) (hs : n ≤ Rm.slots) (hv : (if y < x then y else x) = v) (kk : WW κ c n ws nx lo (.int v :: rest)) : WW κ c n ws pc lo (.int y :: .int x :: rest) := by
  subst hn; subst hv
  intro H locs ls hP hD hS hl
  exact va_mmin C.1 C.2.1 hl.1.symm C.2.2.2.1 (C.2.2.2.2.1 _ hw) (C.2.2.2.2.1 _ wt_Math_min) (C.2.2.2.2.1 _ wi_Math) (C.2.2.2.2.1 _ wc_Math_min) (by rw [C.2.2.2.2.2.2.2]; exact hf) (by rw [C.2.2.2.2.2.2.2]; exact hlc) (by rw [C.2.2.2.2.2.2.2]; exact hc) (by rw [C.2.2.2.2.2.2.2]; exact hs) hd (kk H locs ls hP hD hS hl)
theorem w_obj (C : CT κ cc own nL Rm) {ix a : Nat} (hd : decode cc pc = .ok (.invokespecial ix, 3)) (hn : pc + 3 = nx) (hw : Cond.methodLink own ix objectInit ∈ TBL) (hf : 1 ≤ Rm.frames) (hlc : (rest.map fun v => v.category).sum + 12 ≤ Rm.locals) (kk : WW κ c n ws nx lo rest) : WW κ c n ws pc lo (.ref a :: rest) := by
  subst hn
  intro H locs ls hP hD hS hl
  exact W.objInit C.1 C.2.1 C.2.2.2.1 (C.2.2.2.2.1 _ hw) (C.2.2.2.2.1 _ wm_obj) (C.2.2.2.2.1 _ wc_obj) rfl hl.1 rfl hd (by rw [C.2.2.2.2.2.2.2]; exact hf) (by rw [C.2.2.2.2.2.2.2]; show 2 * 0 + _ + 12 ≤ _; omega) (kk H locs ls hP hD hS hl)
/-! ends -/
theorem w_iret (C : CT κ cc own nL Rm) {ret : Option FieldType} {R : Option Value → va_W → Prop} {mc ms : Nat} (E : CR κ ret R mc ms) {ty : FieldType} {v : Int32} (hd : decode cc pc = .ok (.ireturn, 1)) (hr : ret = some ty) (hv : narrow ty (.int v) = .int v) (hc : c ≤ mc) (hs : n ≤ ms) (hR : R (some (.int v)) ws) : WW κ c n ws pc lo [.int v] := by
  intro H locs ls hP hD hS hl
  rw [E.2.2]
  exact W.widen hc hs (W.zret C.1 C.2.1 (E.1.trans hr) hv (fun t ht hW => ⟨⟨_, ws, rfl, hR, by rw [ht]; exact hP, hD⟩, hS.F ht⟩) hS.2.2 hd E.2.1)
theorem w_vret (C : CT κ cc own nL Rm) {ret : Option FieldType} {R : Option Value → va_W → Prop} {mc ms : Nat} (E : CR κ ret R mc ms) (hd : decode cc pc = .ok (.return_, 1)) (hr : ret = none) (hc : c ≤ mc) (hs : n ≤ ms) (hR : R none ws) : WW κ c n ws pc lo [] := by
  intro H locs ls hP hD hS hl
  rw [E.2.2]
  exact W.widen hc hs (W.vret C.1 C.2.1 (E.1.trans hr) (fun t ht hW => ⟨⟨_, ws, rfl, hR, by rw [ht]; exact hP, hD⟩, hS.F ht⟩) hS.2.2 hd E.2.1)
/-! calls -/
theorem good_tbl {l : List Cond} (h : ∀ w ∈ l, w ∈ TBL) : GoodIn TBL l := fun w hw => ⟨h w hw, tb_good w (h w hw)⟩
/-- what is known of a method that is called on an object, of a constructor, of a static method -/
def MI (y : MethodName) (bytes : ByteArray) (maxL : Nat) (ret : Option FieldType) (nA : Nat) : Prop := Cond.instanceMethod y ∈ TBL ∧ Cond.selects y.cls y y ∈ TBL ∧ Cond.initialized y.cls ∈ TBL ∧ Cond.code y bytes maxL ret ∈ TBL ∧ y.cls ≠ "java/lang/invoke/MethodHandle" ∧ y.cls ≠ "java/lang/invoke/VarHandle" ∧ (parseMethodDescriptor y.desc).map (fun d => d.parameters.length) = some nA
def MK (y : MethodName) (bytes : ByteArray) (maxL : Nat) (nA : Nat) : Prop := Cond.instanceMethod y ∈ TBL ∧ y.name = "<init>" ∧ Cond.initialized y.cls ∈ TBL ∧ Cond.code y bytes maxL none ∈ TBL ∧ y.cls ≠ "java/lang/invoke/MethodHandle" ∧ y.cls ≠ "java/lang/invoke/VarHandle" ∧ (parseMethodDescriptor y.desc).map (fun d => d.parameters.length) = some nA
def MS (y : MethodName) (bytes : ByteArray) (maxL : Nat) (ret : Option FieldType) (nA : Nat) : Prop := Cond.static y ∈ TBL ∧ Cond.initialized y.cls ∈ TBL ∧ Cond.code y bytes maxL ret ∈ TBL ∧ y.cls ≠ "java/lang/invoke/MethodHandle" ∧ y.cls ≠ "java/lang/invoke/VarHandle" ∧ (parseMethodDescriptor y.desc).map (fun d => d.parameters.length) = some nA
theorem pc_blind {G : GG} {av : List Value} {sz : Nat} {wc : va_W} : FrameBlind (va_Pc av (fun U => U.heap.size = sz ∧ va_P G.1 vwCl wc U.heap ∧ KN G U ∧ va_D (fun _ => True) wc)) := fun a U g mk q => by
  obtain ⟨q0, q1, qP, qK, qD⟩ := q
  exact ⟨q0, q1, qP, qK.frame, qD⟩
theorem w_goOn (C : CT κ cc own nL Rm) {st : List Value} {mc ms : Nat} {wc wr : va_W} {R' : Option Value → va_W → Prop} {a : Array Value} (hsp : ws.Perm (wc ++ wr)) (hr : ∀ (H : Heap) (locs : List Loc) (ls : Array Slot), va_P (kG κ).1 vwCl wc H → va_D (fun _ => True) wc → ls.size = nL → va_Run (kp κ) (kl κ) (ke κ) (kR κ) (ks κ) (km κ) (ka κ) (kb κ) (kh κ) (kc κ) H locs c n mc ms (F0 (km κ) pc ls st) rest (MPost (kG κ) R' (va_A wc H.size) a) (va_A wc H.size))
    (kk : ∀ (v : Option Value) (ws' : va_W), R' v ws' → WW κ (c + mc) (n + ms) (ws' ++ wr) (pc + 3) lo (v.toList ++ rest)) : WW κ c n ws pc lo st := by
  intro H locs ls hP hD hS hl T hT X
  have hP2 := pP_perm hsp hP
  have hD2 := pD_perm hsp hD
  obtain ⟨v, st₀, t, T', L, h0, X', hL, e1, e2, ⟨⟨v', ws', hv, hR, hP1, hD1⟩, hz, hk⟩, st⟩ := hr H locs ls (pP_app hP2).1 ((pD_app hD2).1.weaken (fun _ _ _ _ => trivial)) (hl.1.trans C.2.2.1) T hT X
  cases hv
  rw [h0] at hz hk
  have hF : ∀ q, va_A wc H.size q → kA κ q := by
    intro q h
    rcases h with ⟨k, e, h⟩ | h
    · exact (pD_app hD2).1.2 k (q, e) h
    · exact C.2.2.2.2.2.2.1 q (Nat.le_trans hS.1 h)
  obtain ⟨hP3, hD3⟩ := pd_join hP2 hD2 hk hF hP1 hD1
  obtain ⟨t2, a1, b1⟩ := kk v ws' hR T'.heap (locs ++ L) ls (by rw [e1]; exact hP3) hD3 ⟨Nat.le_trans hS.1 (by rw [e1]; exact hz), fun q h1 h2 => by rw [e1, hk q (Nat.lt_of_lt_of_le h1 hS.1) (fun z => h2 (hF q z))]; exact hS.2.1 q h1 h2, fun q hq => by
      rcases List.mem_append.mp hq with h | h
      · exact hS.2.2 q h
      · exact hF _ (hL q h)⟩ hl T' rfl X'
  exact ⟨t2, st t2 a1, b1⟩
theorem w_callV (C : CT κ cc own nL Rm) {y : MethodName} {bytes : ByteArray} {maxL : Nat} {ret : Option FieldType} {k mc ms ix nA b ci : Nat} {As fs : List Value} {st : List Value} {wc wr : va_W} {R' : Option Value → va_W → Prop} {z : vw_C} (M : MI y bytes maxL ret nA) (hM : MT (kl κ) (kG κ) y bytes maxL ret k mc ms (.ref b :: As) wc R') (j : Nat)
    (hd : decode cc pc = .ok (.invokevirtual ix, 3)) (hn : pc + 3 = nx) (hw : Cond.methodLink own ix y ∈ TBL) (hz : vwCl[ci]? = some z) (hzc : z.1 = y.cls) (hrv : wc[j]? = some (b, .inr (ci, fs))) (hsp : ws.Perm (wc ++ wr)) (hst : st = As.reverse ++ .ref b :: rest) (hlen : As.length = nA) (hcat : (rest.map fun v => v.category).sum ≤ 8) (hf : k + 1 ≤ Rm.frames) (hlc : 8 + (maxL + 11) + 64 * k ≤ Rm.locals) (hc : c + mc ≤ Rm.cells) (hs : n + ms ≤ Rm.slots)
    (kk : ∀ (v : Option Value) (ws' : va_W), R' v ws' → WW κ (c + mc) (n + ms) (ws' ++ wr) nx lo (v.toList ++ rest)) : WW κ c n ws pc lo st := by
  subst hn; subst hst
  refine w_goOn C (rest := rest) (a := (Value.ref b :: As).toArray) hsp (fun H locs ls hP hD hl => ?_) kk
  refine va_runV (Ts := TBL) (n := nA) ⟨C.1, C.2.1, C.2.2.1, C.2.2.2.1, C.2.2.2.2.1⟩ (hM H.size) (C := y.cls) (cwV nA C.2.2.2.2.1 (good_tbl (fun w h => ?_)) rfl rfl rfl ⟨rfl, M.2.2.2.2⟩ ⟨by rw [C.2.2.2.2.2.2.2]; exact hf, by rw [C.2.2.2.2.2.2.2]; exact hlc⟩) ⟨pc_blind, ?_, fun U hU hW => ⟨rfl, by rw [hU], by rw [hU]; exact hP, C.2.2.2.2.2.1.warm hW, hD⟩⟩ rfl hlen hl rfl (lv_room hcat) hd ⟨by rw [C.2.2.2.2.2.2.2]; exact hc, by rw [C.2.2.2.2.2.2.2]; exact hs⟩
  · simp only [wsV, List.mem_append, List.mem_cons, List.not_mem_nil, or_false] at h
    rcases h with (h | h | h | h) | h | h
    · rw [h]; exact hw
    · rw [h]; exact M.1
    · rw [h]; exact M.2.1
    · rw [h]; exact M.2.2.1
    · rw [h]; exact M.2.2.2.1
    · exact h
  · have h1 := va_recv C.2.2.2.2.2.1.1 hP hz hrv
    rw [hzc] at h1
    exact h1
theorem w_callS (C : CT κ cc own nL Rm) {y : MethodName} {bytes : ByteArray} {maxL : Nat} {ret : Option FieldType} {k mc ms ix nA : Nat} {As : List Value} {st : List Value} {wc wr : va_W} {R' : Option Value → va_W → Prop} (M : MS y bytes maxL ret nA) (hM : MT (kl κ) (kG κ) y bytes maxL ret k mc ms As wc R')
    (hd : decode cc pc = .ok (.invokestatic ix, 3)) (hn : pc + 3 = nx) (hw : Cond.methodLink own ix y ∈ TBL) (how : y.cls = own) (hsp : ws.Perm (wc ++ wr)) (hst : st = As.reverse ++ rest) (hlen : As.length = nA) (hcat : (rest.map fun v => v.category).sum ≤ 8) (hf : k + 1 ≤ Rm.frames) (hlc : 8 + (maxL + 11) + 64 * k ≤ Rm.locals) (hc : c + mc ≤ Rm.cells) (hs : n + ms ≤ Rm.slots)
    (kk : ∀ (v : Option Value) (ws' : va_W), R' v ws' → WW κ (c + mc) (n + ms) (ws' ++ wr) nx lo (v.toList ++ rest)) : WW κ c n ws pc lo st := by
  subst hn; subst hst
  refine w_goOn C (rest := rest) (a := As.toArray) hsp (fun H locs ls hP hD hl => ?_) kk
  refine va_runS (Ts := TBL) (n := nA) (own := own) ⟨C.1, C.2.1, C.2.2.1, C.2.2.2.1, C.2.2.2.2.1⟩ (hM H.size) (cwS nA C.2.2.2.2.1 (good_tbl (fun w h => ?_)) rfl rfl rfl ⟨how, M.2.2.2⟩ ⟨by rw [C.2.2.2.2.2.2.2]; exact hf, by rw [C.2.2.2.2.2.2.2]; exact hlc⟩) ⟨pc_blind, fun U hU hW => ⟨rfl, by rw [hU], by rw [hU]; exact hP, C.2.2.2.2.2.1.warm hW, hD⟩⟩ rfl hlen hl rfl (lv_room hcat) hd ⟨by rw [C.2.2.2.2.2.2.2]; exact hc, by rw [C.2.2.2.2.2.2.2]; exact hs⟩
  simp only [wsS, List.mem_append, List.mem_cons, List.not_mem_nil, or_false] at h
  rcases h with (h | h | h) | h | h
  · rw [h]; exact hw
  · rw [h]; exact M.1
  · rw [h, ← how]; exact M.2.1
  · rw [h]; exact M.2.2.1
  · exact h
/-- a private static method of the nest's host, called from a class inside -/
theorem w_callN (C : CT κ cc own nL Rm) {y : MethodName} {bytes : ByteArray} {maxL : Nat} {ret : Option FieldType} {k mc ms ix nA : Nat} {host : String} {As : List Value} {st : List Value} {wc wr : va_W} {R' : Option Value → va_W → Prop} (M : MS y bytes maxL ret nA) (hM : MT (kl κ) (kG κ) y bytes maxL ret k mc ms As wc R')
    (hd : decode cc pc = .ok (.invokestatic ix, 3)) (hn : pc + 3 = nx) (hw : Cond.methodLinkNest own ix y host ∈ nestW) (hsp : ws.Perm (wc ++ wr)) (hst : st = As.reverse ++ rest) (hlen : As.length = nA) (hcat : (rest.map fun v => v.category).sum ≤ 8) (hf : k + 1 ≤ Rm.frames) (hlc : 8 + (maxL + 11) + 64 * k ≤ Rm.locals) (hc : c + mc ≤ Rm.cells) (hs : n + ms ≤ Rm.slots)
    (kk : ∀ (v : Option Value) (ws' : va_W), R' v ws' → WW κ (c + mc) (n + ms) (ws' ++ wr) nx lo (v.toList ++ rest)) : WW κ c n ws pc lo st := by
  subst hn; subst hst
  refine w_goOn C (rest := rest) (a := As.toArray) hsp (fun H locs ls hP hD hl => ?_) kk
  refine va_runSN (Ts := TBL) (n := nA) (own := own) (host := host) ⟨C.1, C.2.1, C.2.2.1, C.2.2.2.1, C.2.2.2.2.1⟩ (hM H.size) ⟨va_cnB nA C.2.2.2.2.1 (good_tbl (fun w h => ?_)) rfl rfl rfl (C.2.2.2.2.2.1.2.1 _ hw) (C.2.2.2.2.1 _ M.2.1) M.2.2.2 ⟨by rw [C.2.2.2.2.2.2.2]; exact hf, by rw [C.2.2.2.2.2.2.2]; exact hlc⟩, C.2.2.2.2.1 _ M.1, trivial⟩ ⟨pc_blind, fun U hU hW => ⟨rfl, by rw [hU], by rw [hU]; exact hP, C.2.2.2.2.2.1.warm hW, hD⟩⟩ rfl hlen hl rfl (lv_room hcat) hd ⟨by rw [C.2.2.2.2.2.2.2]; exact hc, by rw [C.2.2.2.2.2.2.2]; exact hs⟩
  rcases List.mem_cons.mp h with h | h
  · rw [h]; exact M.2.2.1
  · exact h
theorem w_callI (C : CT κ cc own nL Rm) {y : MethodName} {bytes : ByteArray} {maxL : Nat} {k mc ms ix nA b : Nat} {As : List Value} {st : List Value} {wc wr : va_W} {R' : Option Value → va_W → Prop} (M : MK y bytes maxL nA) (hM : MT (kl κ) (kG κ) y bytes maxL none k mc ms (.ref b :: As) wc R')
    (hd : decode cc pc = .ok (.invokespecial ix, 3)) (hn : pc + 3 = nx) (hw : Cond.methodLink own ix y ∈ TBL) (hsp : ws.Perm (wc ++ wr)) (hst : st = As.reverse ++ .ref b :: rest) (hlen : As.length = nA) (hcat : (rest.map fun v => v.category).sum ≤ 8) (hf : k + 1 ≤ Rm.frames) (hlc : 8 + (maxL + 11) + 64 * k ≤ Rm.locals) (hc : c + mc ≤ Rm.cells) (hs : n + ms ≤ Rm.slots)
    (kk : ∀ (v : Option Value) (ws' : va_W), R' v ws' → WW κ (c + mc) (n + ms) (ws' ++ wr) nx lo (v.toList ++ rest)) : WW κ c n ws pc lo st := by
  subst hn; subst hst
  refine w_goOn C (rest := rest) (a := (Value.ref b :: As).toArray) hsp (fun H locs ls hP hD hl => ?_) kk
  refine va_runI (Ts := TBL) (n := nA) (own := own) ⟨C.1, C.2.1, C.2.2.1, C.2.2.2.1, C.2.2.2.2.1⟩ (hM H.size) (cwI nA C.2.2.2.2.1 (good_tbl (fun w h => ?_)) rfl rfl rfl (C.2.2.2.2.1 _ M.2.2.1) (C.2.2.2.2.1 _ hw) (C.2.2.2.2.1 _ M.1) M.2.1 M.2.2.2.2 ⟨by rw [C.2.2.2.2.2.2.2]; exact hf, by rw [C.2.2.2.2.2.2.2]; exact hlc⟩) ⟨pc_blind, fun U hU hW => ⟨rfl, by rw [hU], by rw [hU]; exact hP, C.2.2.2.2.2.1.warm hW, hD⟩⟩ rfl hlen hl rfl (lv_room hcat) hd ⟨by rw [C.2.2.2.2.2.2.2]; exact hc, by rw [C.2.2.2.2.2.2.2]; exact hs⟩
  rcases List.mem_cons.mp h with h | h
  · rw [h]; exact M.2.2.2.1
  · exact h
end MEM
