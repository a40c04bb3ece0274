/-! ROWS: an instruction, a row: the goal at it out of the goal behind it -/
section ROWS
variable {κ : KX} {cc : ByteArray} {own : String} {nL : Nat} {Rm : Room} {c n pc nx : Nat} {ws : va_W} {lo lo2 : List (Nat × Value)} {rest : List Value}
theorem w_iconst (C : CT κ cc own nL Rm) (v : Int32) {i : Int} (hd : decode cc pc = .ok (.iconst i, 1)) (hn : pc + 1 = nx) (hv : Int32.ofInt i = v) (k : WW κ c n ws nx lo (.int v :: rest)) : WW κ c n ws pc lo rest := by
  subst hn
  intro H locs ls hP hD hS hl
  exact lv_iconst C.1 C.2.1 hd hv (k H locs ls hP hD hS hl)
theorem w_bipush (C : CT κ cc own nL Rm) (v : Int32) {i : Int} (hd : decode cc pc = .ok (.bipush i, 2)) (hn : pc + 2 = nx) (hv : (Int8.ofInt i).toInt32 = v) (k : WW κ c n ws nx lo (.int v :: rest)) : WW κ c n ws pc lo rest := by
  subst hn
  intro H locs ls hP hD hS hl
  exact lv_bipush C.1 C.2.1 hd hv (k H locs ls hP hD hS hl)
theorem w_sipush (C : CT κ cc own nL Rm) (v : Int32) {i : Int} (hd : decode cc pc = .ok (.sipush i, 3)) (hn : pc + 3 = nx) (hv : (Int16.ofInt i).toInt32 = v) (k : WW κ c n ws nx lo (.int v :: rest)) : WW κ c n ws pc lo rest := by
  subst hn
  intro H locs ls hP hD hS hl
  exact lv_sipush C.1 C.2.1 hd hv (k H locs ls hP hD hS hl)
theorem w_lconst (C : CT κ cc own nL Rm) (v : Int64) {i : Fin 2} (hd : decode cc pc = .ok (.lconst i, 1)) (hn : pc + 1 = nx) (hv : Int64.ofNat (i : Nat) = v) (k : WW κ c n ws nx lo (.long v :: rest)) : WW κ c n ws pc lo rest := by
  subst hn
  intro H locs ls hP hD hS hl
  exact lv_lconst C.1 C.2.1 hd hv (k H locs ls hP hD hS hl)
theorem w_ldc2 (C : CT κ cc own nL Rm) (v : Int64) {i : Nat} (hd : decode cc pc = .ok (.ldc2_w i, 3)) (hn : pc + 3 = nx) (hw : Cond.constantLong own i v ∈ TBL) (k : WW κ c n ws nx lo (.long v :: rest)) : WW κ c n ws pc lo rest := by
  subst hn
  intro H locs ls hP hD hS hl
  exact lv_ldc2 C.1 C.2.1 C.2.2.2.1 (C.2.2.2.2.1 _ hw) hd (k H locs ls hP hD hS hl)
theorem w_iload_n (C : CT κ cc own nL Rm) {i : Nat} {q : Fin 4} {x : Int32} (j : Nat) (hd : decode cc pc = .ok (.iload_n q, 1)) (hn : pc + 1 = nx) (hi : (q : Nat) = i) (hj : lo[j]? = some (i, .int x)) (k : WW κ c n ws nx lo (.int x :: rest)) : WW κ c n ws pc lo rest := by
  subst hn
  intro H locs ls hP hD hS hl
  exact lv_iload_n C.1 C.2.1 hd hi (lv_at hl j hj) (k H locs ls hP hD hS hl)
theorem w_iload (C : CT κ cc own nL Rm) {i : Nat} {x : Int32} (j : Nat) (hd : decode cc pc = .ok (.iload i, 2)) (hn : pc + 2 = nx) (hj : lo[j]? = some (i, .int x)) (k : WW κ c n ws nx lo (.int x :: rest)) : WW κ c n ws pc lo rest := by
  subst hn
  intro H locs ls hP hD hS hl
  exact lv_iload C.1 C.2.1 hd (lv_at hl j hj) (k H locs ls hP hD hS hl)
theorem w_lload_n (C : CT κ cc own nL Rm) {i : Nat} {q : Fin 4} {x : Int64} (j : Nat) (hd : decode cc pc = .ok (.lload_n q, 1)) (hn : pc + 1 = nx) (hi : (q : Nat) = i) (hj : lo[j]? = some (i, .long x)) (k : WW κ c n ws nx lo (.long x :: rest)) : WW κ c n ws pc lo rest := by
  subst hn
  intro H locs ls hP hD hS hl
  exact lv_lload_n C.1 C.2.1 hd hi (lv_at hl j hj) (k H locs ls hP hD hS hl)
theorem w_lload (C : CT κ cc own nL Rm) {i : Nat} {x : Int64} (j : Nat) (hd : decode cc pc = .ok (.lload i, 2)) (hn : pc + 2 = nx) (hj : lo[j]? = some (i, .long x)) (k : WW κ c n ws nx lo (.long x :: rest)) : WW κ c n ws pc lo rest := by
  subst hn
  intro H locs ls hP hD hS hl
  exact lv_lload C.1 C.2.1 hd (lv_at hl j hj) (k H locs ls hP hD hS hl)
theorem w_aload_n (C : CT κ cc own nL Rm) {i : Nat} {q : Fin 4} {x : Nat} (j : Nat) (hd : decode cc pc = .ok (.aload_n q, 1)) (hn : pc + 1 = nx) (hi : (q : Nat) = i) (hj : lo[j]? = some (i, .ref x)) (k : WW κ c n ws nx lo (.ref x :: rest)) : WW κ c n ws pc lo rest := by
  subst hn
  intro H locs ls hP hD hS hl
  exact lv_aload_n C.1 C.2.1 hd hi (lv_at hl j hj) (k H locs ls hP hD hS hl)
theorem w_aload (C : CT κ cc own nL Rm) {i : Nat} {x : Nat} (j : Nat) (hd : decode cc pc = .ok (.aload i, 2)) (hn : pc + 2 = nx) (hj : lo[j]? = some (i, .ref x)) (k : WW κ c n ws nx lo (.ref x :: rest)) : WW κ c n ws pc lo rest := by
  subst hn
  intro H locs ls hP hD hS hl
  exact lv_aload C.1 C.2.1 hd (lv_at hl j hj) (k H locs ls hP hD hS hl)
theorem w_aload_nN (C : CT κ cc own nL Rm) {i : Nat} {q : Fin 4} (j : Nat) (hd : decode cc pc = .ok (.aload_n q, 1)) (hn : pc + 1 = nx) (hi : (q : Nat) = i) (hj : lo[j]? = some (i, .null)) (k : WW κ c n ws nx lo (.null :: rest)) : WW κ c n ws pc lo rest := by
  subst hn
  intro H locs ls hP hD hS hl
  exact lv_aload_nN C.1 C.2.1 hd hi (lv_at hl j hj) (k H locs ls hP hD hS hl)
theorem w_aloadN (C : CT κ cc own nL Rm) {i : Nat} (j : Nat) (hd : decode cc pc = .ok (.aload i, 2)) (hn : pc + 2 = nx) (hj : lo[j]? = some (i, .null)) (k : WW κ c n ws nx lo (.null :: rest)) : WW κ c n ws pc lo rest := by
  subst hn
  intro H locs ls hP hD hS hl
  exact lv_aloadN C.1 C.2.1 hd (lv_at hl j hj) (k H locs ls hP hD hS hl)
theorem w_istore_n (C : CT κ cc own nL Rm) {i : Nat} {q : Fin 4} {x : Int32} (hd : decode cc pc = .ok (.istore_n q, 1)) (hn : pc + 1 = nx) (hi : (q : Nat) = i) (hb : i < nL) (hlo : (i, Value.int x) :: lo.filter (fun q => !(q.1 == i) && !(q.1 + 1 == i && q.2.category == 2)) = lo2) (k : WW κ c n ws nx lo2 rest) : WW κ c n ws pc lo (.int x :: rest) := by
  subst hn
  intro H locs ls hP hD hS hl
  exact lv_istore_n C.1 C.2.1 hd hi (C.2.2.1 ▸ hl) hb hlo (fun ls2 hl2 => k H locs ls2 hP hD hS (C.2.2.1 ▸ hl2))
theorem w_istore (C : CT κ cc own nL Rm) {i : Nat} {x : Int32} (hd : decode cc pc = .ok (.istore i, 2)) (hn : pc + 2 = nx) (hb : i < nL) (hlo : (i, Value.int x) :: lo.filter (fun q => !(q.1 == i) && !(q.1 + 1 == i && q.2.category == 2)) = lo2) (k : WW κ c n ws nx lo2 rest) : WW κ c n ws pc lo (.int x :: rest) := by
  subst hn
  intro H locs ls hP hD hS hl
  exact lv_istore C.1 C.2.1 hd (C.2.2.1 ▸ hl) hb hlo (fun ls2 hl2 => k H locs ls2 hP hD hS (C.2.2.1 ▸ hl2))
theorem w_lstore_n (C : CT κ cc own nL Rm) {i : Nat} {q : Fin 4} {x : Int64} (hd : decode cc pc = .ok (.lstore_n q, 1)) (hn : pc + 1 = nx) (hi : (q : Nat) = i) (hb : i + 1 < nL) (hlo : (i, Value.long x) :: lo.filter (fun q => !(q.1 == i) && (!(q.1 == i + 1) && !(q.1 + 1 == i && q.2.category == 2))) = lo2) (k : WW κ c n ws nx lo2 rest) : WW κ c n ws pc lo (.long x :: rest) := by
  subst hn
  intro H locs ls hP hD hS hl
  exact lv_lstore_n C.1 C.2.1 hd hi (C.2.2.1 ▸ hl) hb hlo (fun ls2 hl2 => k H locs ls2 hP hD hS (C.2.2.1 ▸ hl2))
theorem w_lstore (C : CT κ cc own nL Rm) {i : Nat} {x : Int64} (hd : decode cc pc = .ok (.lstore i, 2)) (hn : pc + 2 = nx) (hb : i + 1 < nL) (hlo : (i, Value.long x) :: lo.filter (fun q => !(q.1 == i) && (!(q.1 == i + 1) && !(q.1 + 1 == i && q.2.category == 2))) = lo2) (k : WW κ c n ws nx lo2 rest) : WW κ c n ws pc lo (.long x :: rest) := by
  subst hn
  intro H locs ls hP hD hS hl
  exact lv_lstore C.1 C.2.1 hd (C.2.2.1 ▸ hl) hb hlo (fun ls2 hl2 => k H locs ls2 hP hD hS (C.2.2.1 ▸ hl2))
theorem w_astore_n (C : CT κ cc own nL Rm) {i : Nat} {q : Fin 4} {x : Nat} (hd : decode cc pc = .ok (.astore_n q, 1)) (hn : pc + 1 = nx) (hi : (q : Nat) = i) (hb : i < nL) (hlo : (i, Value.ref x) :: lo.filter (fun q => !(q.1 == i) && !(q.1 + 1 == i && q.2.category == 2)) = lo2) (k : WW κ c n ws nx lo2 rest) : WW κ c n ws pc lo (.ref x :: rest) := by
  subst hn
  intro H locs ls hP hD hS hl
  exact lv_astore_n C.1 C.2.1 hd hi (C.2.2.1 ▸ hl) hb hlo (fun ls2 hl2 => k H locs ls2 hP hD hS (C.2.2.1 ▸ hl2))
theorem w_astore (C : CT κ cc own nL Rm) {i : Nat} {x : Nat} (hd : decode cc pc = .ok (.astore i, 2)) (hn : pc + 2 = nx) (hb : i < nL) (hlo : (i, Value.ref x) :: lo.filter (fun q => !(q.1 == i) && !(q.1 + 1 == i && q.2.category == 2)) = lo2) (k : WW κ c n ws nx lo2 rest) : WW κ c n ws pc lo (.ref x :: rest) := by
  subst hn
  intro H locs ls hP hD hS hl
  exact lv_astore C.1 C.2.1 hd (C.2.2.1 ▸ hl) hb hlo (fun ls2 hl2 => k H locs ls2 hP hD hS (C.2.2.1 ▸ hl2))
theorem w_astore_nN (C : CT κ cc own nL Rm) {i : Nat} {q : Fin 4} (hd : decode cc pc = .ok (.astore_n q, 1)) (hn : pc + 1 = nx) (hi : (q : Nat) = i) (hb : i < nL) (hlo : (i, Value.null) :: lo.filter (fun q => !(q.1 == i) && !(q.1 + 1 == i && q.2.category == 2)) = lo2) (k : WW κ c n ws nx lo2 rest) : WW κ c n ws pc lo (.null :: rest) := by
  subst hn
  intro H locs ls hP hD hS hl
  exact lv_astore_nN C.1 C.2.1 hd hi (C.2.2.1 ▸ hl) hb hlo (fun ls2 hl2 => k H locs ls2 hP hD hS (C.2.2.1 ▸ hl2))
theorem w_astoreN (C : CT κ cc own nL Rm) {i : Nat} (hd : decode cc pc = .ok (.astore i, 2)) (hn : pc + 2 = nx) (hb : i < nL) (hlo : (i, Value.null) :: lo.filter (fun q => !(q.1 == i) && !(q.1 + 1 == i && q.2.category == 2)) = lo2) (k : WW κ c n ws nx lo2 rest) : WW κ c n ws pc lo (.null :: rest) := by
  subst hn
  intro H locs ls hP hD hS hl
  exact lv_astoreN C.1 C.2.1 hd (C.2.2.1 ▸ hl) hb hlo (fun ls2 hl2 => k H locs ls2 hP hD hS (C.2.2.1 ▸ hl2))
theorem w_iinc (C : CT κ cc own nL Rm) {i : Nat} {d : Int} {x : Int32} (v : Int32) (j : Nat) (hd : decode cc pc = .ok (.iinc i d, 3)) (hn : pc + 3 = nx) (hj : lo[j]? = some (i, .int x)) (hv : x + Int32.ofInt d = v) (hb : i < nL) (hlo : (i, Value.int v) :: lo.filter (fun q => !(q.1 == i) && !(q.1 + 1 == i && q.2.category == 2)) = lo2) (k : WW κ c n ws nx lo2 rest) : WW κ c n ws pc lo rest := by
  subst hn
  intro H locs ls hP hD hS hl
  exact lv_iinc C.1 C.2.1 hd (C.2.2.1 ▸ hl) hj hv hb hlo (fun ls2 hl2 => k H locs ls2 hP hD hS (C.2.2.1 ▸ hl2))
theorem w_iadd (C : CT κ cc own nL Rm) {x y : Int32} (v : Int32) (hd : decode cc pc = .ok (.iadd, 1)) (hn : pc + 1 = nx) (hv : x + y = v) (k : WW κ c n ws nx lo (.int v :: rest)) : WW κ c n ws pc lo (.int y :: .int x :: rest) := by
  subst hv
  subst hn
  intro H locs ls hP hD hS hl
  exact lv_iadd C.1 C.2.1 hd (k H locs ls hP hD hS hl)
theorem w_isub (C : CT κ cc own nL Rm) {x y : Int32} (v : Int32) (hd : decode cc pc = .ok (.isub, 1)) (hn : pc + 1 = nx) (hv : x - y = v) (k : WW κ c n ws nx lo (.int v :: rest)) : WW κ c n ws pc lo (.int y :: .int x :: rest) := by
  subst hv
  subst hn
  intro H locs ls hP hD hS hl
  exact lv_isub C.1 C.2.1 hd (k H locs ls hP hD hS hl)
theorem w_imul (C : CT κ cc own nL Rm) {x y : Int32} (v : Int32) (hd : decode cc pc = .ok (.imul, 1)) (hn : pc + 1 = nx) (hv : x * y = v) (k : WW κ c n ws nx lo (.int v :: rest)) : WW κ c n ws pc lo (.int y :: .int x :: rest) := by
  subst hv
  subst hn
  intro H locs ls hP hD hS hl
  exact lv_imul C.1 C.2.1 hd (k H locs ls hP hD hS hl)
theorem w_iand (C : CT κ cc own nL Rm) {x y : Int32} (v : Int32) (hd : decode cc pc = .ok (.iand, 1)) (hn : pc + 1 = nx) (hv : x &&& y = v) (k : WW κ c n ws nx lo (.int v :: rest)) : WW κ c n ws pc lo (.int y :: .int x :: rest) := by
  subst hv
  subst hn
  intro H locs ls hP hD hS hl
  exact lv_iand C.1 C.2.1 hd (k H locs ls hP hD hS hl)
theorem w_ior (C : CT κ cc own nL Rm) {x y : Int32} (v : Int32) (hd : decode cc pc = .ok (.ior, 1)) (hn : pc + 1 = nx) (hv : x ||| y = v) (k : WW κ c n ws nx lo (.int v :: rest)) : WW κ c n ws pc lo (.int y :: .int x :: rest) := by
  subst hv
  subst hn
  intro H locs ls hP hD hS hl
  exact lv_ior C.1 C.2.1 hd (k H locs ls hP hD hS hl)
theorem w_ixor (C : CT κ cc own nL Rm) {x y : Int32} (v : Int32) (hd : decode cc pc = .ok (.ixor, 1)) (hn : pc + 1 = nx) (hv : x ^^^ y = v) (k : WW κ c n ws nx lo (.int v :: rest)) : WW κ c n ws pc lo (.int y :: .int x :: rest) := by
  subst hv
  subst hn
  intro H locs ls hP hD hS hl
  exact lv_ixor C.1 C.2.1 hd (k H locs ls hP hD hS hl)
theorem w_irem (C : CT κ cc own nL Rm) {x y : Int32} (v : Int32) (hd : decode cc pc = .ok (.irem, 1)) (hn : pc + 1 = nx) (hne : ¬ y = 0) (hv : x - x / y * y = v) (k : WW κ c n ws nx lo (.int v :: rest)) : WW κ c n ws pc lo (.int y :: .int x :: rest) := by
  subst hv
  subst hn
  intro H locs ls hP hD hS hl
  exact lv_irem C.1 C.2.1 hd hne (k H locs ls hP hD hS hl)
theorem w_ishl (C : CT κ cc own nL Rm) {x y : Int32} (v : Int32) (hd : decode cc pc = .ok (.ishl, 1)) (hn : pc + 1 = nx) (hv : x <<< (y &&& 31) = v) (k : WW κ c n ws nx lo (.int v :: rest)) : WW κ c n ws pc lo (.int y :: .int x :: rest) := by
  subst hv
  subst hn
  intro H locs ls hP hD hS hl
  exact lv_ishl C.1 C.2.1 hd (k H locs ls hP hD hS hl)
theorem w_ishr (C : CT κ cc own nL Rm) {x y : Int32} (v : Int32) (hd : decode cc pc = .ok (.ishr, 1)) (hn : pc + 1 = nx) (hv : x >>> (y &&& 31) = v) (k : WW κ c n ws nx lo (.int v :: rest)) : WW κ c n ws pc lo (.int y :: .int x :: rest) := by
  subst hv
  subst hn
  intro H locs ls hP hD hS hl
  exact lv_ishr C.1 C.2.1 hd (k H locs ls hP hD hS hl)
theorem w_land (C : CT κ cc own nL Rm) {x y : Int64} (v : Int64) (hd : decode cc pc = .ok (.land, 1)) (hn : pc + 1 = nx) (hv : x &&& y = v) (k : WW κ c n ws nx lo (.long v :: rest)) : WW κ c n ws pc lo (.long y :: .long x :: rest) := by
  subst hv
  subst hn
  intro H locs ls hP hD hS hl
  exact lv_land C.1 C.2.1 hd (k H locs ls hP hD hS hl)
theorem w_lor (C : CT κ cc own nL Rm) {x y : Int64} (v : Int64) (hd : decode cc pc = .ok (.lor, 1)) (hn : pc + 1 = nx) (hv : x ||| y = v) (k : WW κ c n ws nx lo (.long v :: rest)) : WW κ c n ws pc lo (.long y :: .long x :: rest) := by
  subst hv
  subst hn
  intro H locs ls hP hD hS hl
  exact lv_lor C.1 C.2.1 hd (k H locs ls hP hD hS hl)
theorem w_lushr (C : CT κ cc own nL Rm) {x : Int64} {y : Int32} (v : Int64) (hd : decode cc pc = .ok (.lushr, 1)) (hn : pc + 1 = nx) (hv : (x.toUInt64 >>> (y.toInt64.toUInt64 &&& Int64.toUInt64 63)).toInt64 = v) (k : WW κ c n ws nx lo (.long v :: rest)) : WW κ c n ws pc lo (.int y :: .long x :: rest) := by
  subst hn
  intro H locs ls hP hD hS hl
  exact lv_lushr C.1 C.2.1 hd hv (k H locs ls hP hD hS hl)
theorem w_lshl (C : CT κ cc own nL Rm) {x : Int64} {y : Int32} (v : Int64) (hd : decode cc pc = .ok (.lshl, 1)) (hn : pc + 1 = nx) (hv : x <<< (y.toInt64 &&& 63) = v) (k : WW κ c n ws nx lo (.long v :: rest)) : WW κ c n ws pc lo (.int y :: .long x :: rest) := by
  subst hn
  intro H locs ls hP hD hS hl
  exact lv_lshl C.1 C.2.1 hd hv (k H locs ls hP hD hS hl)
theorem w_lcmp (C : CT κ cc own nL Rm) {x y : Int64} (v : Int32) (hd : decode cc pc = .ok (.lcmp, 1)) (hn : pc + 1 = nx) (hv : lg_cmp x y = v) (k : WW κ c n ws nx lo (.int v :: rest)) : WW κ c n ws pc lo (.long y :: .long x :: rest) := by
  subst hv
  subst hn
  intro H locs ls hP hD hS hl
  exact W.lcmp C.1 C.2.1 hd (k H locs ls hP hD hS hl)
theorem w_i2l (C : CT κ cc own nL Rm) {x : Int32} (v : Int64) (hd : decode cc pc = .ok (.i2l, 1)) (hn : pc + 1 = nx) (hv : x.toInt64 = v) (k : WW κ c n ws nx lo (.long v :: rest)) : WW κ c n ws pc lo (.int x :: rest) := by
  subst hn
  intro H locs ls hP hD hS hl
  exact lv_i2l C.1 C.2.1 hd hv (k H locs ls hP hD hS hl)
theorem w_l2i (C : CT κ cc own nL Rm) {x : Int64} (v : Int32) (hd : decode cc pc = .ok (.l2i, 1)) (hn : pc + 1 = nx) (hv : x.toInt32 = v) (k : WW κ c n ws nx lo (.int v :: rest)) : WW κ c n ws pc lo (.long x :: rest) := by
  subst hn
  intro H locs ls hP hD hS hl
  exact lv_l2i C.1 C.2.1 hd hv (k H locs ls hP hD hS hl)
theorem w_i2c (C : CT κ cc own nL Rm) {x : Int32} (v : Int32) (hd : decode cc pc = .ok (.i2c, 1)) (hn : pc + 1 = nx) (hv : (x.toUInt32 % 65536).toInt32 = v) (k : WW κ c n ws nx lo (.int v :: rest)) : WW κ c n ws pc lo (.int x :: rest) := by
  subst hn
  intro H locs ls hP hD hS hl
  exact lv_i2c C.1 C.2.1 hd hv (k H locs ls hP hD hS hl)
theorem w_dup (C : CT κ cc own nL Rm) {x : Value} (hd : decode cc pc = .ok (.dup, 1)) (hn : pc + 1 = nx) (hc : x.category = 1) (k : WW κ c n ws nx lo (x :: x :: rest)) : WW κ c n ws pc lo (x :: rest) := by
  subst hn
  intro H locs ls hP hD hS hl
  exact lv_dup C.1 C.2.1 hd hc (k H locs ls hP hD hS hl)
theorem w_dup2 (C : CT κ cc own nL Rm) {x y : Value} (hd : decode cc pc = .ok (.dup2, 1)) (hn : pc + 1 = nx) (hx : y.category = 1) (hy : x.category = 1) (k : WW κ c n ws nx lo (y :: x :: y :: x :: rest)) : WW κ c n ws pc lo (y :: x :: rest) := by
  subst hn
  intro H locs ls hP hD hS hl
  exact lv_dup2_11 C.1 C.2.1 hd hx hy (k H locs ls hP hD hS hl)
theorem w_pop (C : CT κ cc own nL Rm) {x : Value} (hd : decode cc pc = .ok (.pop, 1)) (hn : pc + 1 = nx) (hc : x.category = 1) (k : WW κ c n ws nx lo rest) : WW κ c n ws pc lo (x :: rest) := by
  subst hn
  intro H locs ls hP hD hS hl
  exact lv_pop C.1 C.2.1 hd hc (k H locs ls hP hD hS hl)
theorem w_null (C : CT κ cc own nL Rm) (hd : decode cc pc = .ok (.aconst_null, 1)) (hn : pc + 1 = nx) (k : WW κ c n ws nx lo (.null :: rest)) : WW κ c n ws pc lo rest := by
  subst hn
  intro H locs ls hP hD hS hl
  exact lv_null C.1 C.2.1 hd (k H locs ls hP hD hS hl)
theorem w_top {x : Int32} (y : Int32) (h : x = y) (k : WW κ c n ws pc lo (.int y :: rest)) : WW κ c n ws pc lo (.int x :: rest) := by
  subst h
  exact k
theorem w_goto (C : CT κ cc own nL Rm) {o : Int} (hd : decode cc pc = .ok (.goto o, 3)) (ht : (pc : Int) + o = (nx : Int)) (k : WW κ c n ws nx lo rest) : WW κ c n ws pc lo rest := fun H locs ls hP hD hS hl => lv_goto C.1 C.2.1 hd ht (k H locs ls hP hD hS hl)
theorem w_if_eq (C : CT κ cc own nL Rm) {x : Int32} {o : Int} {tg : Nat} (hd : decode cc pc = .ok (.ifCond .eq o, 3)) (ht : (pc : Int) + o = (tg : Int)) (hn : pc + 3 = nx) (kt : x = 0 → WW κ c n ws tg lo rest) (kf : ¬ x = 0 → WW κ c n ws nx lo rest) : WW κ c n ws pc lo (.int x :: rest) := by
  subst hn
  intro H locs ls hP hD hS hl
  exact lv_if_eq C.1 C.2.1 hd ht (fun h => kt (by first | exact h | simpa using h) H locs ls hP hD hS hl) (fun h => kf (by first | exact h | simpa using h) H locs ls hP hD hS hl)
theorem w_if_ne (C : CT κ cc own nL Rm) {x : Int32} {o : Int} {tg : Nat} (hd : decode cc pc = .ok (.ifCond .ne o, 3)) (ht : (pc : Int) + o = (tg : Int)) (hn : pc + 3 = nx) (kt : ¬ x = 0 → WW κ c n ws tg lo rest) (kf : x = 0 → WW κ c n ws nx lo rest) : WW κ c n ws pc lo (.int x :: rest) := by
  subst hn
  intro H locs ls hP hD hS hl
  exact lv_if_ne C.1 C.2.1 hd ht (fun h => kt (by first | exact h | simpa using h) H locs ls hP hD hS hl) (fun h => kf (by first | exact h | simpa using h) H locs ls hP hD hS hl)
theorem w_if_lt (C : CT κ cc own nL Rm) {x : Int32} {o : Int} {tg : Nat} (hd : decode cc pc = .ok (.ifCond .lt o, 3)) (ht : (pc : Int) + o = (tg : Int)) (hn : pc + 3 = nx) (kt : x < 0 → WW κ c n ws tg lo rest) (kf : ¬ x < 0 → WW κ c n ws nx lo rest) : WW κ c n ws pc lo (.int x :: rest) := by
  subst hn
  intro H locs ls hP hD hS hl
  exact lv_if_lt C.1 C.2.1 hd ht (fun h => kt (by first | exact h | simpa using h) H locs ls hP hD hS hl) (fun h => kf (by first | exact h | simpa using h) H locs ls hP hD hS hl)
theorem w_if_le (C : CT κ cc own nL Rm) {x : Int32} {o : Int} {tg : Nat} (hd : decode cc pc = .ok (.ifCond .le o, 3)) (ht : (pc : Int) + o = (tg : Int)) (hn : pc + 3 = nx) (kt : x ≤ 0 → WW κ c n ws tg lo rest) (kf : ¬ x ≤ 0 → WW κ c n ws nx lo rest) : WW κ c n ws pc lo (.int x :: rest) := by
  subst hn
  intro H locs ls hP hD hS hl
  exact lv_if_le C.1 C.2.1 hd ht (fun h => kt (by first | exact h | simpa using h) H locs ls hP hD hS hl) (fun h => kf (by first | exact h | simpa using h) H locs ls hP hD hS hl)
theorem w_icmp_eq (C : CT κ cc own nL Rm) {x y : Int32} {o : Int} {tg : Nat} (hd : decode cc pc = .ok (.if_icmp .eq o, 3)) (ht : (pc : Int) + o = (tg : Int)) (hn : pc + 3 = nx) (kt : x = y → WW κ c n ws tg lo rest) (kf : ¬ x = y → WW κ c n ws nx lo rest) : WW κ c n ws pc lo (.int y :: .int x :: rest) := by
  subst hn
  intro H locs ls hP hD hS hl
  exact lv_icmp_eq C.1 C.2.1 hd ht (fun h => kt (by first | exact h | simpa using h) H locs ls hP hD hS hl) (fun h => kf (by first | exact h | simpa using h) H locs ls hP hD hS hl)
theorem w_icmp_ne (C : CT κ cc own nL Rm) {x y : Int32} {o : Int} {tg : Nat} (hd : decode cc pc = .ok (.if_icmp .ne o, 3)) (ht : (pc : Int) + o = (tg : Int)) (hn : pc + 3 = nx) (kt : ¬ x = y → WW κ c n ws tg lo rest) (kf : x = y → WW κ c n ws nx lo rest) : WW κ c n ws pc lo (.int y :: .int x :: rest) := by
  subst hn
  intro H locs ls hP hD hS hl
  exact lv_icmp_ne C.1 C.2.1 hd ht (fun h => kt (by first | exact h | simpa using h) H locs ls hP hD hS hl) (fun h => kf (by first | exact h | simpa using h) H locs ls hP hD hS hl)
theorem w_icmp_lt (C : CT κ cc own nL Rm) {x y : Int32} {o : Int} {tg : Nat} (hd : decode cc pc = .ok (.if_icmp .lt o, 3)) (ht : (pc : Int) + o = (tg : Int)) (hn : pc + 3 = nx) (kt : x < y → WW κ c n ws tg lo rest) (kf : ¬ x < y → WW κ c n ws nx lo rest) : WW κ c n ws pc lo (.int y :: .int x :: rest) := by
  subst hn
  intro H locs ls hP hD hS hl
  exact lv_icmp_lt C.1 C.2.1 hd ht (fun h => kt (by first | exact h | simpa using h) H locs ls hP hD hS hl) (fun h => kf (by first | exact h | simpa using h) H locs ls hP hD hS hl)
theorem w_icmp_le (C : CT κ cc own nL Rm) {x y : Int32} {o : Int} {tg : Nat} (hd : decode cc pc = .ok (.if_icmp .le o, 3)) (ht : (pc : Int) + o = (tg : Int)) (hn : pc + 3 = nx) (kt : x ≤ y → WW κ c n ws tg lo rest) (kf : ¬ x ≤ y → WW κ c n ws nx lo rest) : WW κ c n ws pc lo (.int y :: .int x :: rest) := by
  subst hn
  intro H locs ls hP hD hS hl
  exact lv_icmp_le C.1 C.2.1 hd ht (fun h => kt (by first | exact h | simpa using h) H locs ls hP hD hS hl) (fun h => kf (by first | exact h | simpa using h) H locs ls hP hD hS hl)
theorem w_icmp_gt (C : CT κ cc own nL Rm) {x y : Int32} {o : Int} {tg : Nat} (hd : decode cc pc = .ok (.if_icmp .gt o, 3)) (ht : (pc : Int) + o = (tg : Int)) (hn : pc + 3 = nx) (kt : y < x → WW κ c n ws tg lo rest) (kf : ¬ y < x → WW κ c n ws nx lo rest) : WW κ c n ws pc lo (.int y :: .int x :: rest) := by
  subst hn
  intro H locs ls hP hD hS hl
  exact lv_icmp_gt C.1 C.2.1 hd ht (fun h => kt (by first | exact h | simpa using h) H locs ls hP hD hS hl) (fun h => kf (by first | exact h | simpa using h) H locs ls hP hD hS hl)
theorem w_icmp_ge (C : CT κ cc own nL Rm) {x y : Int32} {o : Int} {tg : Nat} (hd : decode cc pc = .ok (.if_icmp .ge o, 3)) (ht : (pc : Int) + o = (tg : Int)) (hn : pc + 3 = nx) (kt : y ≤ x → WW κ c n ws tg lo rest) (kf : ¬ y ≤ x → WW κ c n ws nx lo rest) : WW κ c n ws pc lo (.int y :: .int x :: rest) := by
  subst hn
  intro H locs ls hP hD hS hl
  exact lv_icmp_ge C.1 C.2.1 hd ht (fun h => kt (by first | exact h | simpa using h) H locs ls hP hD hS hl) (fun h => kf (by first | exact h | simpa using h) H locs ls hP hD hS hl)
theorem n_icmp_eq (C : CT κ cc own nL Rm) {a b : Nat} {o : Int} {tg : Nat} (hd : decode cc pc = .ok (.if_icmp .eq o, 3)) (ht : (pc : Int) + o = (tg : Int)) (hn : pc + 3 = nx) (ha : a < 2 ^ 31) (hb : b < 2 ^ 31) (kt : a = b → WW κ c n ws tg lo rest) (kf : ¬ a = b → WW κ c n ws nx lo rest) : WW κ c n ws pc lo (.int (nI b) :: .int (nI a) :: rest) := w_icmp_eq C hd ht hn (fun h => kt ((nI_eq ha hb).mp h)) (fun h => kf (fun q => h ((nI_eq ha hb).mpr q)))
theorem n_icmp_lt (C : CT κ cc own nL Rm) {a b : Nat} {o : Int} {tg : Nat} (hd : decode cc pc = .ok (.if_icmp .lt o, 3)) (ht : (pc : Int) + o = (tg : Int)) (hn : pc + 3 = nx) (ha : a < 2 ^ 31) (hb : b < 2 ^ 31) (kt : a < b → WW κ c n ws tg lo rest) (kf : ¬ a < b → WW κ c n ws nx lo rest) : WW κ c n ws pc lo (.int (nI b) :: .int (nI a) :: rest) := w_icmp_lt C hd ht hn (fun h => kt ((nI_ltI ha hb).mp h)) (fun h => kf (fun q => h ((nI_ltI ha hb).mpr q)))
theorem n_icmp_le (C : CT κ cc own nL Rm) {a b : Nat} {o : Int} {tg : Nat} (hd : decode cc pc = .ok (.if_icmp .le o, 3)) (ht : (pc : Int) + o = (tg : Int)) (hn : pc + 3 = nx) (ha : a < 2 ^ 31) (hb : b < 2 ^ 31) (kt : a ≤ b → WW κ c n ws tg lo rest) (kf : ¬ a ≤ b → WW κ c n ws nx lo rest) : WW κ c n ws pc lo (.int (nI b) :: .int (nI a) :: rest) := w_icmp_le C hd ht hn (fun h => kt ((nI_leI ha hb).mp h)) (fun h => kf (fun q => h ((nI_leI ha hb).mpr q)))
theorem n_icmp_gt (C : CT κ cc own nL Rm) {a b : Nat} {o : Int} {tg : Nat} (hd : decode cc pc = .ok (.if_icmp .gt o, 3)) (ht : (pc : Int) + o = (tg : Int)) (hn : pc + 3 = nx) (ha : a < 2 ^ 31) (hb : b < 2 ^ 31) (kt : b < a → WW κ c n ws tg lo rest) (kf : ¬ b < a → WW κ c n ws nx lo rest) : WW κ c n ws pc lo (.int (nI b) :: .int (nI a) :: rest) := w_icmp_gt C hd ht hn (fun h => kt ((nI_ltI hb ha).mp h)) (fun h => kf (fun q => h ((nI_ltI hb ha).mpr q)))
theorem n_icmp_ge (C : CT κ cc own nL Rm) {a b : Nat} {o : Int} {tg : Nat} (hd : decode cc pc = .ok (.if_icmp .ge o, 3)) (ht : (pc : Int) + o = (tg : Int)) (hn : pc + 3 = nx) (ha : a < 2 ^ 31) (hb : b < 2 ^ 31) (kt : b ≤ a → WW κ c n ws tg lo rest) (kf : ¬ b ≤ a → WW κ c n ws nx lo rest) : WW κ c n ws pc lo (.int (nI b) :: .int (nI a) :: rest) := w_icmp_ge C hd ht hn (fun h => kt ((nI_leI hb ha).mp h)) (fun h => kf (fun q => h ((nI_leI hb ha).mpr q)))
theorem n_icmp_ne (C : CT κ cc own nL Rm) {a b : Nat} {o : Int} {tg : Nat} (hd : decode cc pc = .ok (.if_icmp .ne o, 3)) (ht : (pc : Int) + o = (tg : Int)) (hn : pc + 3 = nx) (ha : a < 2 ^ 31) (hb : b < 2 ^ 31) (kt : ¬ a = b → WW κ c n ws tg lo rest) (kf : a = b → WW κ c n ws nx lo rest) : WW κ c n ws pc lo (.int (nI b) :: .int (nI a) :: rest) := w_icmp_ne C hd ht hn (fun h => kt (fun q => h ((nI_eq ha hb).mpr q))) (fun h => kf ((nI_eq ha hb).mp h))
theorem n_if_eq (C : CT κ cc own nL Rm) {a : Nat} {o : Int} {tg : Nat} (hd : decode cc pc = .ok (.ifCond .eq o, 3)) (ht : (pc : Int) + o = (tg : Int)) (hn : pc + 3 = nx) (ha : a < 2 ^ 31) (kt : a = 0 → WW κ c n ws tg lo rest) (kf : ¬ a = 0 → WW κ c n ws nx lo rest) : WW κ c n ws pc lo (.int (nI a) :: rest) := w_if_eq C hd ht hn (fun h => kt ((nI_eq ha (by decide)).mp h)) (fun h => kf (fun q => h ((nI_eq ha (by decide)).mpr q)))
theorem n_if_ne (C : CT κ cc own nL Rm) {a : Nat} {o : Int} {tg : Nat} (hd : decode cc pc = .ok (.ifCond .ne o, 3)) (ht : (pc : Int) + o = (tg : Int)) (hn : pc + 3 = nx) (ha : a < 2 ^ 31) (kt : ¬ a = 0 → WW κ c n ws tg lo rest) (kf : a = 0 → WW κ c n ws nx lo rest) : WW κ c n ws pc lo (.int (nI a) :: rest) := w_if_ne C hd ht hn (fun h => kt (fun q => h ((nI_eq ha (by decide)).mpr q))) (fun h => kf ((nI_eq ha (by decide)).mp h))
theorem n_if_le (C : CT κ cc own nL Rm) {a : Nat} {o : Int} {tg : Nat} (hd : decode cc pc = .ok (.ifCond .le o, 3)) (ht : (pc : Int) + o = (tg : Int)) (hn : pc + 3 = nx) (ha : a < 2 ^ 31) (kt : a = 0 → WW κ c n ws tg lo rest) (kf : ¬ a = 0 → WW κ c n ws nx lo rest) : WW κ c n ws pc lo (.int (nI a) :: rest) := w_if_le C hd ht hn (fun h => kt (Nat.le_zero.mp ((nI_leI ha (by decide)).mp h))) (fun h => kf (fun q => h ((nI_leI ha (by decide)).mpr (Nat.le_zero.mpr q))))
theorem n_if_lt (C : CT κ cc own nL Rm) {a : Nat} {o : Int} (hd : decode cc pc = .ok (.ifCond .lt o, 3)) {tg : Nat} (ht : (pc : Int) + o = (tg : Int)) (hn : pc + 3 = nx) (ha : a < 2 ^ 31) (kf : WW κ c n ws nx lo rest) : WW κ c n ws pc lo (.int (nI a) :: rest) := w_if_lt C hd ht hn (fun h => absurd h (nI_pos ha)) (fun _ => kf)
/-- 1 where P holds, else 0 -/
noncomputable def bC (P : Prop) : Int32 := @ite _ P (Classical.propDecidable P) 1 0
theorem bC_t {P : Prop} (h : P) : bC P = 1 := by unfold bC; rw [if_pos h]
theorem bC_f {P : Prop} (h : ¬ P) : bC P = 0 := by unfold bC; rw [if_neg h]
theorem bC_1 {P : Prop} (h : P) : (1 : Int32) = bC P := (bC_t h).symm
theorem bC_0 {P : Prop} (h : ¬ P) : (0 : Int32) = bC P := (bC_f h).symm
theorem bC_iff {P Q : Prop} (h : P ↔ Q) : bC P = bC Q := by rw [propext h]
theorem bC_eq0 {P : Prop} : bC P = 0 ↔ ¬ P := ⟨fun h p => by rw [bC_t p] at h; exact absurd h (by decide), bC_f⟩
theorem bC_nar {P : Prop} {v : Int32} (h : v = bC P) : narrow .boolean (.int v) = .int v := by
  subst h
  by_cases p : P
  · rw [bC_t p]; rfl
  · rw [bC_f p]; rfl
theorem bC_nar0 (P : Prop) : narrow .boolean (.int (bC P)) = .int (bC P) := bC_nar rfl
theorem b_if_eq (C : CT κ cc own nL Rm) {P : Prop} {o : Int} {tg : Nat} (hd : decode cc pc = .ok (.ifCond .eq o, 3)) (ht : (pc : Int) + o = (tg : Int)) (hn : pc + 3 = nx) (kt : ¬ P → WW κ c n ws tg lo rest) (kf : P → WW κ c n ws nx lo rest) : WW κ c n ws pc lo (.int (bC P) :: rest) := w_if_eq C hd ht hn (fun h => kt (bC_eq0.mp h)) (fun h => kf (Classical.not_not.mp (fun q => h (bC_f q))))
theorem b_if_ne (C : CT κ cc own nL Rm) {P : Prop} {o : Int} {tg : Nat} (hd : decode cc pc = .ok (.ifCond .ne o, 3)) (ht : (pc : Int) + o = (tg : Int)) (hn : pc + 3 = nx) (kt : P → WW κ c n ws tg lo rest) (kf : ¬ P → WW κ c n ws nx lo rest) : WW κ c n ws pc lo (.int (bC P) :: rest) := w_if_ne C hd ht hn (fun h => kt (Classical.not_not.mp (fun q => h (bC_f q)))) (fun h => kf (bC_eq0.mp h))
theorem w_ifnonnull (C : CT κ cc own nL Rm) {x : Nat} {o : Int} {tg : Nat} (hd : decode cc pc = .ok (.ifnonnull o, 3)) (ht : (pc : Int) + o = (tg : Int)) (k : WW κ c n ws tg lo rest) : WW κ c n ws pc lo (.ref x :: rest) := fun H locs ls hP hD hS hl => lv_ifnonnull C.1 C.2.1 hd ht (k H locs ls hP hD hS hl)
theorem w_ifnonnullN (C : CT κ cc own nL Rm) {o : Int} (hd : decode cc pc = .ok (.ifnonnull o, 3)) (hn : pc + 3 = nx) (k : WW κ c n ws nx lo rest) : WW κ c n ws pc lo (.null :: rest) := by
  subst hn
  exact fun H locs ls hP hD hS hl => lv_ifnonnullN C.1 C.2.1 hd (k H locs ls hP hD hS hl)
theorem w_tableOut (C : CT κ cc own nL Rm) {df l1 h1 : Int} {offs : Array Int} {len : Nat} {x : Int32} (hd : decode cc pc = .ok (.tableswitch df l1 h1 offs, len)) (h : x.toInt < l1 ∨ h1 < x.toInt) (ht : (pc : Int) + df = (nx : Int)) (k : WW κ c n ws nx lo rest) : WW κ c n ws pc lo (.int x :: rest) := fun H locs ls hP hD hS hl => lv_tableOut C.1 C.2.1 hd h ht (k H locs ls hP hD hS hl)
theorem w_tableIn (C : CT κ cc own nL Rm) {df l1 h1 : Int} {offs : Array Int} {len : Nat} {x : Int32} {o : Int} (hd : decode cc pc = .ok (.tableswitch df l1 h1 offs, len)) (h2 : ¬ x.toInt < l1) (h3 : ¬ h1 < x.toInt) (ho : offs[(x.toInt - l1).toNat]? = some o) (ht : (pc : Int) + o = (nx : Int)) (k : WW κ c n ws nx lo rest) : WW κ c n ws pc lo (.int x :: rest) := fun H locs ls hP hD hS hl => lv_tableIn C.1 C.2.1 hd h2 h3 ho ht (k H locs ls hP hD hS hl)
theorem w_lookup (C : CT κ cc own nL Rm) {df : Int} {ps : Array (Int × Int)} {len : Nat} {x : Int32} {o : Int} (hd : decode cc pc = .ok (.lookupswitch df ps, len)) (hp : (ps.toList.zip (ps.toList.drop 1)).all (fun (a, next) => a.1 < next.1) = true) (ho : Op.lookupswitch.offset ps.toList df x.toInt = o) (ht : (pc : Int) + o = (nx : Int)) (k : WW κ c n ws nx lo rest) : WW κ c n ws pc lo (.int x :: rest) := fun H locs ls hP hD hS hl => lv_lookup C.1 C.2.1 hd hp ho ht (k H locs ls hP hD hS hl)
end ROWS
