/-! THE FRAME OF WORK: one tuple for what stays fixed in a body; a world is a list of cells; 'WW': from every heap that holds the world, the machine comes to its end -/
abbrev GG : Type := va_G × ClassId × ClassId × ClassId × ClassId
/-- the array classes: of ints, chars (twice), states -/
def gT (G : GG) : List (ClassId × FieldType) := [(G.2.1, .int), (G.2.2.1, .char), (G.2.2.2.1, .char), (G.2.2.2.2, .object RX5)]
abbrev cI (G : GG) : ClassId := G.2.1
abbrev cC (G : GG) : ClassId := G.2.2.1
abbrev cS (G : GG) : ClassId := G.2.2.2.2
/-- an array of ints, of chars, of booleans, of states -/
abbrev aI (G : GG) (n : Nat) (f : Nat → Int32) : va_E := .inl (G.2.1, n, .inl f)
abbrev aC (G : GG) (n : Nat) (f : Nat → Int32) : va_E := .inl (G.2.2.1, n, .inl f)
abbrev aS (G : GG) (n : Nat) (f : Nat → Option Nat) : va_E := .inl (G.2.2.2.2, n, .inr (.inr (.inr (.inr f))))
def KN (G : GG) (U : State) : Prop := va_K G.1 vwCl (gT G) U ∧ (∀ w ∈ nestW, va_Nw w U) ∧ va_AO RX5 U
theorem nest_warm {w : Cond} (hw : w ∈ nestW) {s U : State} (hW : s.WarmedH U.vm) (h : va_Nw w s) : va_Nw w U := by
  simp only [nestW, List.mem_cons, List.not_mem_nil, or_false] at hw
  rcases hw with rfl | rfl | rfl <;> exact va_Nw.warmM hW h
theorem nest_frame {w : Cond} (hw : w ∈ nestW) {U : State} {g : JFrame} {mk : MethodId} {a : Array Value} (h : va_Nw w U) : va_Nw w (U.calling g mk a) := by
  simp only [nestW, List.mem_cons, List.not_mem_nil, or_false] at hw
  rcases hw with rfl | rfl | rfl <;> exact va_Nw.same rfl rfl h
theorem KN.warm {G : GG} {s U : State} (hW : s.WarmedH U.vm) (h : KN G s) : KN G U := ⟨va_K.moved hW.alike h.1, fun w hw => nest_warm hw hW (h.2.1 w hw), va_AO.moved hW.alike h.2.2⟩
theorem KN.frame {G : GG} {U : State} {g : JFrame} {mk : MethodId} {a : Array Value} (h : KN G U) : KN G (U.calling g mk a) := ⟨va_K.moved (u := U) (U := U.calling g mk a) (Vm.Alike.refl U.vm) h.1, fun w hw => nest_frame hw (h.2.1 w hw), va_AO.moved (u := U) (U := U.calling g mk a) (Vm.Alike.refl U.vm) h.2.2⟩
abbrev KX : Type := Program × Launch × Env × Room × State × MethodId × Array Value × List Frame × Method × Code × GG × (Nat → Prop) × (State → Prop)
abbrev kp (κ : KX) : Program := κ.1
abbrev kl (κ : KX) : Launch := κ.2.1
abbrev ke (κ : KX) : Env := κ.2.2.1
abbrev kR (κ : KX) : Room := κ.2.2.2.1
abbrev ks (κ : KX) : State := κ.2.2.2.2.1
abbrev km (κ : KX) : MethodId := κ.2.2.2.2.2.1
abbrev ka (κ : KX) : Array Value := κ.2.2.2.2.2.2.1
abbrev kb (κ : KX) : List Frame := κ.2.2.2.2.2.2.2.1
abbrev kh (κ : KX) : Method := κ.2.2.2.2.2.2.2.2.1
abbrev kc (κ : KX) : Code := κ.2.2.2.2.2.2.2.2.2.1
abbrev kG (κ : KX) : GG := κ.2.2.2.2.2.2.2.2.2.2.1
abbrev kA (κ : KX) : Nat → Prop := κ.2.2.2.2.2.2.2.2.2.2.2.1
abbrev kQ (κ : KX) : State → Prop := κ.2.2.2.2.2.2.2.2.2.2.2.2
def WW (κ : KX) (cells slots : Nat) (ws : va_W) (pc : Nat) (lo : List (Nat × Value)) (st : List Value) : Prop :=
  ∀ (H : Heap) (locs : List Loc) (ls : Array Slot), va_P (kG κ).1 vwCl ws H → va_D (kA κ) ws → va_S (kA κ) (ks κ).heap H locs → lv_has ls (kc κ).maxLocals lo → W (kp κ) (kl κ) (ke κ) (kR κ) (ks κ) (km κ) (ka κ) (kb κ) (kh κ) (kc κ) H locs cells slots (kQ κ) (F0 (km κ) pc ls st)
/-- what is known all through a body: its code, its class, its locals, its room -/
def CT (κ : KX) (cc : ByteArray) (own : String) (nL : Nat) (Rm : Room) : Prop :=
  (kp κ).tables.exec = Jvm.exec ∧ (kc κ).code = cc ∧ (kc κ).maxLocals = nL ∧ (ks κ).vm.findClass own = some (km κ).cls ∧ (∀ w ∈ TBL, w.before (ka κ) (ks κ) = true) ∧ KN (kG κ) (ks κ) ∧ (∀ q : Nat, (ks κ).heap.size ≤ q → kA κ q) ∧ kR κ = Rm
abbrev RM (k mc ms : Nat) : Room := { frames := k, cells := mc, slots := ms, locals := 64 * k }
def MPost (G : GG) (R : Option Value → va_W → Prop) (A : Nat → Prop) : Array Value → State → Outcome → State → Prop := fun _ st oc t => (∃ (v : Option Value) (ws' : va_W), oc = .returned v ∧ R v ws' ∧ va_P G.1 vwCl ws' t.heap ∧ va_D A ws') ∧ va_F A st t
/-- a method's contract: from the world ws, with the arguments av, it returns, and R holds of the answer and the world behind it -/
def MT (l : Launch) (G : GG) (y : MethodName) (bytes : ByteArray) (maxL : Nat) (ret : Option FieldType) (k mc ms : Nat) (av : List Value) (ws : va_W) (R : Option Value → va_W → Prop) : Prop :=
  ∀ sz : Nat, Met l y (.code y bytes maxL ret :: TBL) (RM k mc ms) (va_Pc av (fun U => U.heap.size = sz ∧ va_P G.1 vwCl ws U.heap ∧ KN G U ∧ va_D (fun _ => True) ws)) (MPost G R (va_A ws sz)) mc ms (va_A ws sz)
/-- what is known where a body ends -/
def CR (κ : KX) (ret : Option FieldType) (R : Option Value → va_W → Prop) (mc ms : Nat) : Prop :=
  (kh κ).sig.returnType = ret ∧ (kh κ).locks = false ∧ kQ κ = MQ (kb κ) (MPost (kG κ) R (kA κ)) (ka κ) (ks κ) mc ms (kA κ)
theorem MT.of {l : Launch} {G : GG} {y : MethodName} {bytes : ByteArray} {maxL : Nat} {ret : Option FieldType} {k mc ms : Nat} {av : List Value} {ws : va_W} {R : Option Value → va_W → Prop} (own : String) (lo : List (Nat × Value)) (hy : plainName y.cls = true) (hown : y.cls = own) (hlo : lv_args 0 av = lo) (hn : (lg_sl av).length ≤ maxL)
    (body : ∀ κ : KX, CT κ bytes own maxL (RM k mc ms) → CR κ ret R mc ms → kl κ = l → kG κ = G → (kh κ).name = y.name → WW κ 0 0 ws 0 lo []) : MT l G y bytes maxL ret k mc ms av ws R := by
  intro sz
  refine Met.ofW (cc := bytes) (maxL := maxL) (ret := ret) hy rfl ?_
  intro p e s m args below meth c s₁ B hml hv
  obtain ⟨rfl, hsz, hP, hK, hD0⟩ := hv
  have hts := atoms_spec (ws := .code y bytes maxL ret :: TBL) B.pre
  have hown2 : s.vm.findClass own = some m.cls := by rw [← hown]; exact findClass_of_methodNamed B.named
  have hnm : meth.name = y.name := (name_of_methodNamed B.named B.method).1
  subst hsz
  have hD := hD0.self (sz := s.heap.size)
  have hl := lv_entry av (n := maxL) hn
  rw [hlo] at hl
  rw [lg_entry_eq]
  exact body (p, l, e, RM k mc ms, s, m, av.toArray, below, meth, c, G, va_A ws s.heap.size, MQ below (MPost G R (va_A ws s.heap.size)) av.toArray s mc ms (va_A ws s.heap.size)) ⟨B.exec, B.bytes, hml, hown2, fun w hw => hts w (List.mem_cons_of_mem _ hw), hK, fun q h => Or.inr h, rfl⟩ ⟨B.returns, B.notSynchronized, rfl⟩ rfl rfl hnm s.heap [] _ hP hD va_S.rf (by show lv_has _ c.maxLocals lo; rw [hml]; exact hl)
/-! worlds as sets of cells -/
theorem pP_mem {D : va_G} {cl : List vw_C} {ws : va_W} {H : Heap} : va_P D cl ws H ↔ ∀ q ∈ ws, va_at D cl q H := by
  constructor
  · intro h q hq
    obtain ⟨i, hi⟩ := List.getElem?_of_mem hq
    exact h i q hi
  · exact fun h k q hk => h q (List.mem_of_getElem? hk)
theorem pD_mem {A : Nat → Prop} {ws : va_W} : va_D A ws ↔ ws.Pairwise (fun p q => p.1 ≠ q.1) ∧ ∀ q ∈ ws, A q.1 := by
  constructor
  · intro h
    refine ⟨List.pairwise_iff_getElem.mpr fun i j hi hj hij he => ?_, fun q hq => ?_⟩
    · have := h.1 i j _ _ (List.getElem?_eq_getElem hi) (List.getElem?_eq_getElem hj) he
      omega
    · obtain ⟨i, hi⟩ := List.getElem?_of_mem hq
      exact h.2 i q hi
  · intro h
    refine ⟨fun i j p q hi hj he => ?_, fun k q hk => h.2 q (List.mem_of_getElem? hk)⟩
    obtain ⟨hi1, hi2⟩ := List.getElem?_eq_some_iff.mp hi
    obtain ⟨hj1, hj2⟩ := List.getElem?_eq_some_iff.mp hj
    have hp := List.pairwise_iff_getElem.mp h.1
    rcases Nat.lt_trichotomy i j with hlt | heq | hgt
    · exact absurd (by rw [hi2, hj2]; exact he) (hp i j hi1 hj1 hlt)
    · exact heq
    · exact absurd (by rw [hi2, hj2]; exact he.symm) (hp j i hj1 hi1 hgt)
theorem pP_perm {D : va_G} {cl : List vw_C} {ws ws' : va_W} {H : Heap} (h : ws.Perm ws') (hP : va_P D cl ws H) : va_P D cl ws' H := pP_mem.mpr fun q hq => pP_mem.mp hP q (h.mem_iff.mpr hq)
theorem pD_perm {A : Nat → Prop} {ws ws' : va_W} (h : ws.Perm ws') (hD : va_D A ws) : va_D A ws' := by
  have h1 := pD_mem.mp hD
  exact pD_mem.mpr ⟨(h.pairwise_iff (fun hab => fun e => hab e.symm)).mp h1.1, fun q hq => h1.2 q (h.mem_iff.mpr hq)⟩
theorem pA_perm {ws ws' : va_W} (h : ws.Perm ws') {sz q : Nat} (hA : va_A ws sz q) : va_A ws' sz q := by
  rcases hA with ⟨k, e, hk⟩ | hA
  · obtain ⟨i, hi⟩ := List.getElem?_of_mem (h.mem_iff.mp (List.mem_of_getElem? hk))
    exact Or.inl ⟨i, e, hi⟩
  · exact Or.inr hA
theorem pP_app {D : va_G} {cl : List vw_C} {w1 w2 : va_W} {H : Heap} (h : va_P D cl (w1 ++ w2) H) : va_P D cl w1 H ∧ va_P D cl w2 H := ⟨pP_mem.mpr fun q hq => pP_mem.mp h q (List.mem_append_left _ hq), pP_mem.mpr fun q hq => pP_mem.mp h q (List.mem_append_right _ hq)⟩
theorem pD_app {A : Nat → Prop} {w1 w2 : va_W} (h : va_D A (w1 ++ w2)) : va_D A w1 ∧ va_D A w2 ∧ ∀ p ∈ w1, ∀ q ∈ w2, p.1 ≠ q.1 := by
  have h1 := pD_mem.mp h
  have h2 := List.pairwise_append.mp h1.1
  exact ⟨pD_mem.mpr ⟨h2.1, fun q hq => h1.2 q (List.mem_append_left _ hq)⟩, pD_mem.mpr ⟨h2.2.1, fun q hq => h1.2 q (List.mem_append_right _ hq)⟩, h2.2.2⟩
/-- behind a call: the callee's world as it left it, the rest as it was -/
theorem pd_join {A : Nat → Prop} {D : va_G} {cl : List vw_C} {wc wr w1 : va_W} {H H1 : Heap} (hP : va_P D cl (wc ++ wr) H) (hD : va_D A (wc ++ wr)) (hk : ∀ q : Nat, q < H.size → ¬ va_A wc H.size q → H1[q]? = H[q]?) (hF : ∀ q, va_A wc H.size q → A q) (hP1 : va_P D cl w1 H1) (hD1 : va_D (va_A wc H.size) w1) : va_P D cl (w1 ++ wr) H1 ∧ va_D A (w1 ++ wr) := by
  obtain ⟨hPc, hPr⟩ := pP_app hP
  obtain ⟨hDc, hDr, hx⟩ := pD_app hD
  have apart : ∀ q ∈ wr, q.1 < H.size ∧ ¬ va_A wc H.size q.1 := by
    intro q hq
    have hl := (pP_mem.mp hPr q hq).lt
    refine ⟨hl, fun h => ?_⟩
    rcases h with ⟨k2, e, h⟩ | h
    · exact hx _ (List.mem_of_getElem? h) q hq rfl
    · omega
  refine ⟨va_P.app hP1 (pP_mem.mpr fun q hq => ?_), va_D.app (hD1.weaken (fun k q _ h => hF q.1 h)) hDr (fun i j p q hp hq he => ?_)⟩
  · obtain ⟨g1, g2⟩ := apart q hq
    exact (pP_mem.mp hPr q hq).kept (hk q.1 g1 g2)
  · exact (apart q (List.mem_of_getElem? hq)).2 (by rw [← he]; exact hD1.2 i p hp)
/-- cells taken out of a world by their places, one after the other -/
def tk : List Nat → va_W → Option (va_W × va_W)
  | [], ws => some ([], ws)
  | i :: is, ws => match ws[i]? with
    | none => none
    | some x => match tk is (ws.eraseIdx i) with
      | none => none
      | some (a, b) => some (x :: a, b)
theorem er_perm : ∀ {ws : va_W} {i : Nat} {x : Nat × va_E}, ws[i]? = some x → ws.Perm (x :: ws.eraseIdx i)
  | [], i, x, h => by simp at h
  | y :: l, 0, x, h => by
    have h2 : y = x := by simpa using h
    subst h2
    exact List.Perm.refl _
  | y :: l, i + 1, x, h => by
    have h2 := er_perm (ws := l) (i := i) (x := x) (by simpa using h)
    exact (h2.cons y).trans (List.Perm.swap x y _)
theorem tk_perm : ∀ (is : List Nat) {ws a b : va_W}, tk is ws = some (a, b) → ws.Perm (a ++ b)
  | [], ws, a, b, h => by
    have h2 : (([] : va_W), ws) = (a, b) := Option.some.inj h
    cases h2
    exact List.Perm.refl _
  | i :: is, ws, a, b, h => by
    unfold tk at h
    cases hi : ws[i]? with
    | none => rw [hi] at h; cases h
    | some x =>
      rw [hi] at h
      dsimp only at h
      cases ht : tk is (ws.eraseIdx i) with
      | none => rw [ht] at h; cases h
      | some ab =>
        obtain ⟨a', b'⟩ := ab
        rw [ht] at h
        dsimp only at h
        have h2 : (x :: a', b') = (a, b) := Option.some.inj h
        cases h2
        obtain ⟨hlt, hx⟩ := List.getElem?_eq_some_iff.mp hi
        have h3 : ws.Perm (x :: ws.eraseIdx i) := er_perm hi
        exact h3.trans (List.Perm.cons x (tk_perm is ht))
/-- cells picked by their places, all of them, each once -/
def nthD : Nat → va_W → Nat × va_E
  | _, [] => (0, .inr (0, []))
  | 0, x :: _ => x
  | i + 1, _ :: l => nthD i l
def sel (ws : va_W) : List Nat → va_W
  | [] => []
  | i :: is => nthD i ws :: sel ws is
def chk (is : List Nat) (n : Nat) : Bool := is.isPerm (List.range n)
theorem sel_map (ws : va_W) : ∀ is : List Nat, sel ws is = is.map (fun i => nthD i ws)
  | [] => rfl
  | i :: is => by rw [sel, sel_map ws is]; rfl
theorem nthD_get : ∀ (ws : va_W) (i : Nat) (h : i < ws.length), nthD i ws = ws[i]
  | [], _, h => absurd h (Nat.not_lt_zero _)
  | _ :: _, 0, _ => rfl
  | _ :: l, i + 1, h => nthD_get l i (Nat.lt_of_succ_lt_succ h)
theorem range_map (ws : va_W) : (List.range ws.length).map (fun i => nthD i ws) = ws := by
  apply List.ext_getElem
  · simp
  · intro i h1 h2
    simp only [List.getElem_map, List.getElem_range]
    exact nthD_get ws i h2
theorem pm_sel {ws l : va_W} (is : List Nat) (n : Nat) (h1 : chk is n = true) (hn : ws.length = n) (h2 : sel ws is = l) : ws.Perm l := by
  subst hn
  have hp := List.isPerm_iff.mp h1
  rw [← h2, sel_map]
  have h3 := hp.map (fun i => nthD i ws)
  rw [range_map] at h3
  exact h3.symm
theorem pm_mid {a b t : va_W} {w : va_W} (h : w.Perm (a ++ b)) : (w ++ t).Perm ((a ++ t) ++ b) := by
  refine (h.append_right t).trans ?_
  rw [List.append_assoc, List.append_assoc]
  exact List.Perm.append_left a List.perm_append_comm
/-- a world in another order -/
theorem ww_perm {κ : KX} {c n : Nat} {ws ws' : va_W} {pc : Nat} {lo : List (Nat × Value)} {st : List Value} (h : ws.Perm ws') (k : WW κ c n ws' pc lo st) : WW κ c n ws pc lo st := fun H locs ls hP hD hS hl => k H locs ls (pP_perm h hP) (pD_perm h hD) hS hl
theorem ww_sel {κ : KX} {c n : Nat} {ws l : va_W} {pc : Nat} {lo : List (Nat × Value)} {st : List Value} (h : ws.Perm l) (k : WW κ c n l pc lo st) : WW κ c n ws pc lo st := ww_perm h k
theorem ww_tk {κ : KX} {c n : Nat} {ws a : va_W} {pc : Nat} {lo : List (Nat × Value)} {st : List Value} (is : List Nat) {b : va_W} (h : tk is ws = some (a, b)) (k : WW κ c n (a ++ b) pc lo st) : WW κ c n ws pc lo st := ww_perm (tk_perm is h) k
theorem ww_wide {κ : KX} {c n c' n' : Nat} {ws : va_W} {pc : Nat} {lo : List (Nat × Value)} {st : List Value} (h1 : c ≤ c') (h2 : n ≤ n') (k : WW κ c' n' ws pc lo st) : WW κ c n ws pc lo st := fun H locs ls hP hD hS hl => W.widen h1 h2 (k H locs ls hP hD hS hl)
/-- fewer locals, in another order -/
theorem ww_lo {κ : KX} {c n : Nat} {ws : va_W} {pc : Nat} {lo lo' : List (Nat × Value)} {st : List Value} (ks : List Nat) (h : lv_pick lo ks = lo') (k : WW κ c n ws pc lo' st) : WW κ c n ws pc lo st := fun H locs ls hP hD hS hl => k H locs ls hP hD hS (lv_sub hl ks h)
