/-! PURE: the reference's stack of statements in motion, and what is left to be done -/
/-- a statement on the stack: kind, table, key, number, weight, stage, next trigger, chain, fuel -/
abbrev FR : Type := Nat × Nat × Nat × Nat × Nat × Nat × Nat × List Nat × Nat
abbrev qK (F : FR) : Nat := F.1
abbrev qT (F : FR) : Nat := F.2.1
abbrev qY (F : FR) : Nat := F.2.2.1
abbrev qN (F : FR) : Nat := F.2.2.2.1
abbrev qW (F : FR) : Nat := F.2.2.2.2.1
abbrev qS (F : FR) : Nat := F.2.2.2.2.2.1
abbrev qX (F : FR) : Nat := F.2.2.2.2.2.2.1
abbrev qC (F : FR) : List Nat := F.2.2.2.2.2.2.2.1
abbrev qF (F : FR) : Nat := F.2.2.2.2.2.2.2.2
def mkS : List FR → Nat
  | [] => 0
  | F :: fs => mkS fs ||| 2 ^ qT F
noncomputable def aft1 (g : CF) (kd t ky w : Nat) (ch : List Nat) (r : RS) : RS := if rsn r = 0 then que g kd t w ky ch (cR g).1 0 r else r
noncomputable def aft0 (g : CF) (dd : Nat → RS → RS) (kd t ky w : Nat) (ch : List Nat) (r : RS) : RS := if rsn r = 0 then aft1 g kd t ky w ch (stg g 1 kd t w dd (cR g).1 0 (doneS r kd t ky w ch)) else r
noncomputable def resF (g : CF) (F : FR) (mo : Nat) (r : RS) : RS :=
  if qS F = 0 then aft0 g (deedS g (car g (qF F) (mo ||| 2 ^ qT F)) (qT F) (qY F) (qC F)) (qK F) (qT F) (qY F) (qW F) (qC F) (stg g 0 (qK F) (qT F) (qW F) (deedS g (car g (qF F) (mo ||| 2 ^ qT F)) (qT F) (qY F) (qC F)) ((cR g).1 - qX F) (qX F) r)
  else if qS F = 1 then aft1 g (qK F) (qT F) (qY F) (qW F) (qC F) (stg g 1 (qK F) (qT F) (qW F) (deedS g (car g (qF F) (mo ||| 2 ^ qT F)) (qT F) (qY F) (qC F)) ((cR g).1 - qX F) (qX F) r)
  else que g (qK F) (qT F) (qW F) (qY F) (qC F) ((cR g).1 - qX F) (qX F) r
noncomputable def finS (g : CF) : List FR → RS → RS
  | [], r => r
  | F :: fs, r => if rsn r = 0 then finS g fs (resF g F (mkS fs) r) else r
theorem fin_bad {g : CF} {fs : List FR} {r : RS} (h : ¬ rsn r = 0) : finS g fs r = r := by
  cases fs with
  | nil => rfl
  | cons F fs =>
    show (if rsn r = 0 then _ else _) = _
    rw [if_neg h]
theorem fin_go {g : CF} {F : FR} {fs : List FR} {r : RS} (h : rsn r = 0) : finS g (F :: fs) r = finS g fs (resF g F (mkS fs) r) := by
  show (if rsn r = 0 then _ else _) = _
  rw [if_pos h]
theorem aft0_bad {g : CF} {dd : Nat → RS → RS} {kd t ky w : Nat} {ch : List Nat} {r : RS} (h : ¬ rsn r = 0) : aft0 g dd kd t ky w ch r = r := if_neg h
theorem aft1_bad {g : CF} {kd t ky w : Nat} {ch : List Nat} {r : RS} (h : ¬ rsn r = 0) : aft1 g kd t ky w ch r = r := if_neg h
section FIN
variable {g : CF} {kd t ky nm w nx f : Nat} {ch : List Nat} {fs : List FR} {r : RS}
theorem res0 {mo : Nat} : resF g (kd, t, ky, nm, w, 0, nx, ch, f) mo r = aft0 g (deedS g (car g f (mo ||| 2 ^ t)) t ky ch) kd t ky w ch (stg g 0 kd t w (deedS g (car g f (mo ||| 2 ^ t)) t ky ch) ((cR g).1 - nx) nx r) := if_pos rfl
theorem res1 {mo : Nat} : resF g (kd, t, ky, nm, w, 1, nx, ch, f) mo r = aft1 g kd t ky w ch (stg g 1 kd t w (deedS g (car g f (mo ||| 2 ^ t)) t ky ch) ((cR g).1 - nx) nx r) := (if_neg (show ¬ (1 : Nat) = 0 by decide)).trans (if_pos rfl)
theorem res2 {mo : Nat} : resF g (kd, t, ky, nm, w, 2, nx, ch, f) mo r = que g kd t w ky ch ((cR g).1 - nx) nx r := (if_neg (show ¬ (2 : Nat) = 0 by decide)).trans (if_neg (show ¬ (2 : Nat) = 1 by decide))
/-- a trigger that isn't set off -/
theorem fin_skip {st : Nat} (hst : st ≤ 2) (hr : rsn r = 0) (hx : nx < (cR g).1) (hs : ¬ soff g nx st kd t w) : finS g ((kd, t, ky, nm, w, st, nx, ch, f) :: fs) r = finS g ((kd, t, ky, nm, w, st, nx + 1, ch, f) :: fs) r := by
  rw [fin_go hr, fin_go hr]
  rcases (show st = 0 ∨ st = 1 ∨ st = 2 by omega) with rfl | rfl | rfl
  · rw [res0, res0, show (cR g).1 - nx = (cR g).1 - (nx + 1) + 1 by omega, stg_off hs]
  · rw [res1, res1, show (cR g).1 - nx = (cR g).1 - (nx + 1) + 1 by omega, stg_off hs]
  · rw [res2, res2, show (cR g).1 - nx = (cR g).1 - (nx + 1) + 1 by omega, que_off hs]
theorem fin_wait (hr : rsn r = 0) (hx : nx < (cR g).1) (hs : soff g nx 2 kd t w) : finS g ((kd, t, ky, nm, w, 2, nx, ch, f) :: fs) r = finS g ((kd, t, ky, nm, w, 2, nx + 1, ch, f) :: fs) (waitS r nx t ky ch) := by
  rw [fin_go hr, fin_go (r := waitS r nx t ky ch) hr, res2, res2, show (cR g).1 - nx = (cR g).1 - (nx + 1) + 1 by omega, que_on hs]
theorem fin_deed {st : Nat} (hst : st < 2) (hr : rsn r = 0) (hx : nx < (cR g).1) (hs : soff g nx st kd t w) : finS g ((kd, t, ky, nm, w, st, nx, ch, f) :: fs) r = finS g ((kd, t, ky, nm, w, st, nx + 1, ch, f) :: fs) (deedS g (car g f (mkS ((kd, t, ky, nm, w, st, nx + 1, ch, f) :: fs))) t ky ch nx r) := by
  show _ = finS g ((kd, t, ky, nm, w, st, nx + 1, ch, f) :: fs) (deedS g (car g f (mkS fs ||| 2 ^ t)) t ky ch nx r)
  rw [fin_go hr]
  by_cases h2 : rsn (deedS g (car g f (mkS fs ||| 2 ^ t)) t ky ch nx r) = 0
  · rw [fin_go h2]
    rcases (show st = 0 ∨ st = 1 by omega) with rfl | rfl
    · rw [res0, res0, show (cR g).1 - nx = (cR g).1 - (nx + 1) + 1 by omega, stg_on hs h2]
    · rw [res1, res1, show (cR g).1 - nx = (cR g).1 - (nx + 1) + 1 by omega, stg_on hs h2]
  · rw [fin_bad h2]
    rcases (show st = 0 ∨ st = 1 by omega) with rfl | rfl
    · rw [res0, show (cR g).1 - nx = (cR g).1 - (nx + 1) + 1 by omega, stg_on2 hs h2, aft0_bad h2, fin_bad h2]
    · rw [res1, show (cR g).1 - nx = (cR g).1 - (nx + 1) + 1 by omega, stg_on2 hs h2, aft1_bad h2, fin_bad h2]
theorem fin_done (hr : rsn r = 0) (hx : nx = (cR g).1) : finS g ((kd, t, ky, nm, w, 0, nx, ch, f) :: fs) r = finS g ((kd, t, ky, nm, w, 1, 0, ch, f) :: fs) (doneS r kd t ky w ch) := by
  rw [fin_go hr, fin_go (r := doneS r kd t ky w ch) hr, res0, res1, show (cR g).1 - nx = 0 by omega]
  show finS g fs (aft0 g _ kd t ky w ch r) = _
  unfold aft0
  rw [if_pos hr]
  rfl
theorem fin_st1 (hr : rsn r = 0) (hx : nx = (cR g).1) : finS g ((kd, t, ky, nm, w, 1, nx, ch, f) :: fs) r = finS g ((kd, t, ky, nm, w, 2, 0, ch, f) :: fs) r := by
  rw [fin_go hr, fin_go hr, res1, res2, show (cR g).1 - nx = 0 by omega]
  show finS g fs (aft1 g kd t ky w ch r) = _
  unfold aft1
  rw [if_pos hr]
  rfl
theorem fin_pop (hr : rsn r = 0) (hx : nx = (cR g).1) : finS g ((kd, t, ky, nm, w, 2, nx, ch, f) :: fs) r = finS g fs r := by
  rw [fin_go hr, res2, show (cR g).1 - nx = 0 by omega]
  rfl
theorem fin_push (hr : rsn r = 0) (h : ¬ cD g < ch.length) (h2 : ¬ 100 ≤ rsB r) (h3 : ¬ (mkS fs).testBit t = true) (hw : wgt (rsT r) kd t ky nm = some w) : finS g fs (car g (f + 1) (mkS fs) kd t ky nm ch r) = finS g ((kd, t, ky, nm, w, 0, 0, ch, f) :: fs) (begS r ch.length) := by
  rw [fin_go (r := begS r ch.length) hr, res0]
  congr 1
  show (if cD g < ch.length then _ else _) = _
  rw [if_neg h, if_neg h2, if_neg h3, hw]
  rfl
end FIN
/-! the machine as it stands: its stack in its arrays -/
def rFr (F : FR) (d : Nat) (f22 f23 f24 f25 f26 f27 f28 : Nat → Int32) : Prop := f22 d = nI (qK F) ∧ f23 d = nI (qT F) ∧ f24 d = nI (qY F) ∧ f25 d = nI (qN F) ∧ f26 d = nI (qW F) ∧ f27 d = nI (qS F) ∧ f28 d = nI (qX F)
def wFr (g : CF) (τ : TB) (F : FR) : Prop := qK F < 3 ∧ qT F < 4 ∧ qY F < 100 ∧ qN F < 1000 ∧ qW F < 1000 ∧ qS F ≤ 2 ∧ qX F ≤ (cR g).1 ∧ (∀ x ∈ qC F, x < 12) ∧ (qC F).length ≤ cD g ∧ 9 ≤ qF F + (qC F).length ∧ (qS F = 0 → wgt τ (qK F) (qT F) (qY F) (qN F) = some (qW F))
def stM (g : CF) (τ : TB) (low : Nat) (f21 f22 f23 f24 f25 f26 f27 f28 : Nat → Int32) : List FR → Prop
  | [] => True
  | F :: fs => (qC F).length = low + fs.length ∧ rFr F (low + fs.length) f22 f23 f24 f25 f26 f27 f28 ∧ rCh f21 (qC F) ∧ wFr g τ F ∧ (mkS fs).testBit (qT F) = false ∧ stM g τ low f21 f22 f23 f24 f25 f26 f27 f28 fs
theorem stM_eq {g : CF} {τ τ2 : TB} {low : Nat} {f21 f22 f23 f24 f25 f26 f27 f28 g21 g22 g23 g24 g25 g26 g27 g28 : Nat → Int32} : ∀ (fs : List FR), (∀ k, k + 1 < low + fs.length → g21 k = f21 k) → (∀ k, k < low + fs.length → g22 k = f22 k ∧ g23 k = f23 k ∧ g24 k = f24 k ∧ g25 k = f25 k ∧ g26 k = f26 k ∧ g27 k = f27 k ∧ g28 k = f28 k) → (∀ u, (mkS fs).testBit u = true → sameT τ τ2 u) → stM g τ low f21 f22 f23 f24 f25 f26 f27 f28 fs → stM g τ2 low g21 g22 g23 g24 g25 g26 g27 g28 fs
  | [], _, _, _, _ => trivial
  | F :: fs, h1, h2, h3, h => by
    obtain ⟨a1, a2, a3, a4, a5, a6⟩ := h
    have hl : (F :: fs).length = fs.length + 1 := rfl
    obtain ⟨e2, e3, e4, e5, e6, e7, e8⟩ := h2 (low + fs.length) (by omega)
    refine ⟨a1, ⟨e2.trans a2.1, e3.trans a2.2.1, e4.trans a2.2.2.1, e5.trans a2.2.2.2.1, e6.trans a2.2.2.2.2.1, e7.trans a2.2.2.2.2.2.1, e8.trans a2.2.2.2.2.2.2⟩, fun k hk => (h1 k (by omega)).trans (a3 k hk), ?_, a5, stM_eq fs (fun k hk => h1 k (by omega)) (fun k hk => h2 k (by omega)) (fun u hu => h3 u ?_) a6⟩
    · obtain ⟨b1, b2, b3, b4, b5, b6, b7, b8, b9, b10, b11⟩ := a4
      refine ⟨b1, b2, b3, b4, b5, b6, b7, b8, b9, b10, fun z => ?_⟩
      rw [wgt_same (h3 (qT F) ?_)]
      · exact b11 z
      · show (mkS fs ||| 2 ^ qT F).testBit (qT F) = true
        rw [Nat.testBit_or, Nat.testBit_two_pow_self]; simp
    · show (mkS fs ||| 2 ^ qT F).testBit u = true
      rw [Nat.testBit_or, hu]; rfl
def rMV (v : Nat → Int32) (r : RS) : Prop := v 9 = nI (rsn r) ∧ v 10 = nI (rsB r) ∧ v 11 = nI (rsL r) ∧ (v 12 = nI (rsP r) ∨ (v 12 = -6 ∧ rsP r = 0 ∧ rsB r = 0)) ∧ v 13 = nI (rsJ r).1 ∧ (¬ rsn r = 0 → v 14 = nI (rsF r).2.1 ∧ v 15 = nI (rsF r).2.2.1) ∧ v 16 = nI (rsF r).2.2.2.length ∧ v 30 = nI (rsW r).1
def rMW (f31 f32 f33 f34 f35 : Nat → Int32) (W : Nat × (Nat → WT)) : Prop := ∀ i, i < W.1 → f31 i = nI (W.2 i).1 ∧ f32 i = nI (W.2 i).2.1 ∧ f33 i = nI (W.2 i).2.2.1 ∧ f34 i = nI (W.2 i).2.2.2.length ∧ ∀ k, k < (W.2 i).2.2.2.length → f35 (10 * i + k) = nI ((W.2 i).2.2.2.getD k 0)
def rMv (f29 : Nat → Int32) (m : Nat) : Prop := ∀ u, u < 4 → f29 u = bC (m.testBit u = true)
def rMG (f1 : Nat → Int32) (g : CF) : Prop := f1 0 = nI (cD g) ∧ f1 1 = nI (cL g) ∧ rMR f1 (cR g)
def SV (v0 v : Nat → Int32) : Prop := v 0 = v0 0 ∧ v 4 = v0 4 ∧ v 8 = v0 8 ∧ v 18 = v0 18 ∧ v 39 = v0 39 ∧ v 40 = v0 40 ∧ v 42 = v0 42
def tpO (x : Int32) (low : Nat) : List FR → Prop
  | [] => x < nI low
  | _ :: fs => x = nI (low + fs.length)
def kS : List FR → Nat
  | [] => 0
  | F :: fs => kS fs + (if qS F = 0 then 1 else 0)
def wS : List FR → Nat
  | [] => 0
  | F :: fs => wS fs + (if qS F = 0 then 0 else if qS F = 1 then 12 else 12 - qX F)
def msF (F : FR) : Nat := (3 - qS F) * 13 - qX F
def msL : List FR → Nat
  | [] => 0
  | F :: fs => msL fs + msF F
/-- how much is left to be done at most -/
def msS (fs : List FR) (r : RS) : Nat := (100 - rsB r) * 40 + msL fs
def MM (g : CF) (wo : Int32) (v0 f0 : Nat → Int32) (low e ew : Nat) (fs : List FR) (r : RS) (v f1 f17 f21 f22 f23 f24 f25 f26 f27 f28 f29 f31 f32 f33 f34 f35 f36 : Nat → Int32) : Prop :=
  (wfC g ∧ (∀ i, i < 12 → (nI i = wo ↔ i = cO g)) ∧ low ≤ 9) ∧ SV v0 v ∧ sMO f0 f1 ∧ (v 18 = wo ∧ v 19 = nI low ∧ tpO (v 20) low fs) ∧ rMG f1 g ∧ rMT f1 (rsT r) ∧ rMV v r ∧ rCh f17 (rsF r).2.2.2 ∧ rJ f36 (rsJ r) ∧ rMW f31 f32 f33 f34 f35 (rsW r) ∧ rMv f29 (mkS fs) ∧ stM g (rsT r) low f21 f22 f23 f24 f25 f26 f27 f28 fs ∧ wfX g (kS fs + e) 0 r ∧ (rsW r).1 + wS fs + ew ≤ 12 * (rsJ r).1
theorem wfX_le {g : CF} {k k2 q : Nat} {r : RS} (h : wfX g k q r) (hk : k2 ≤ k) : wfX g k2 q r := by
  obtain ⟨a1, a2, a3, a4, a5, a6, a7⟩ := h
  exact ⟨a1, by omega, a3, a4, a5, a6, a7⟩
theorem rMG_eq {f1 g1 : Nat → Int32} {g : CF} (hg : wfC g) (h : rMG f1 g) (e : sMO f1 g1) : rMG g1 g := ⟨(e _ (by omega)).trans h.1, (e _ (by omega)).trans h.2.1, rMR_eq h.2.2 hg.2.2.1 (fun i a _ => e i (by omega))⟩
theorem rJ_done2 {f : Nat → Int32} {j : JR} {kd t ky w : Nat} {ch : List Nat} (h : rJ f j) : rJ (upd (upd (upd (upd (upd (upd f (6 * j.1) (jrow kd t ky w ch 0)) (6 * j.1 + 1) (jrow kd t ky w ch 1)) (6 * j.1 + 2) (jrow kd t ky w ch 2)) (6 * j.1 + 3) (jrow kd t ky w ch 3)) (6 * j.1 + 4) (jrow kd t ky w ch 4)) (6 * j.1 + 5) (jrow kd t ky w ch 5)) (j.1 + 1, fun i => if i = j.1 then jrow kd t ky w ch else j.2 i) := by
  have h2 := rJ_done (kd := kd) (t := t) (ky := ky) (w := w) (ch := ch) h
  rw [show 6 * j.1 = j.1 * 6 + 0 by omega]
  exact h2
theorem sub1_low : ∀ n, n < 10 → nI n - nI 1 < nI n := by decide +kernel
section MMS
variable {g : CF} {wo : Int32} {v0 f0 : Nat → Int32} {low e ew : Nat} {fs : List FR} {r : RS} {v f1 f17 f21 f22 f23 f24 f25 f26 f27 f28 f29 f31 f32 f33 f34 f35 f36 : Nat → Int32}
theorem MM_fail {why t ky d : Nat} {ch : List Nat} {g17 : Nat → Int32} (h : MM g wo v0 f0 low e ew fs r v f1 f17 f21 f22 f23 f24 f25 f26 f27 f28 f29 f31 f32 f33 f34 f35 f36) (h1 : 0 < why) (h2 : why < 6) (ht : t < 4) (hk : ky < 100) (hc : ch.length = d) (hc9 : d ≤ 9) (hx : ∀ x ∈ ch, x < 12) (hp : rCh f21 ch) (hg17 : ∀ k, k < d → g17 k = f21 k) : MM g wo v0 f0 low 0 0 fs (failS r why t ky ch) (upd (upd (upd (upd v 9 (nI why)) 14 (nI t)) 15 (nI ky)) 16 (nI d)) f1 g17 f21 f22 f23 f24 f25 f26 f27 f28 f29 f31 f32 f33 f34 f35 f36 := by
  obtain ⟨⟨c1, c2, c3⟩, hsv, hso, ⟨t1, t2, t3⟩, hG, hT, ⟨v1, v2, v3, v4, v5, v6, v7, v8⟩, h17, hJ, hW, hv, hs, hX, hw⟩ := h
  subst hc
  refine ⟨⟨c1, c2, c3⟩, hsv, hso, ⟨t1, t2, t3⟩, hG, hT, ⟨rfl, v2, v3, v4, v5, fun _ => ⟨rfl, rfl⟩, rfl, v8⟩, fun k hk2 => (hg17 k hk2).trans (hp k hk2), hJ, hW, hv, hs, wfX_fail (wfX_le hX (by omega)) h1 h2 ht hk hc9 hx, ?_⟩
  show (rsW r).1 + wS fs + 0 ≤ 12 * (rsJ r).1
  omega
theorem MM_beg {d : Nat} (h : MM g wo v0 f0 low 0 ew fs r v f1 f17 f21 f22 f23 f24 f25 f26 f27 f28 f29 f31 f32 f33 f34 f35 f36) (hb : rsB r < 100) (hd : d ≤ 8) : MM g wo v0 f0 low 1 ew fs (begS r d) (upd (upd v 10 (nI (rsB r + 1))) 12 (nI (max (rsP r) d))) f1 f17 f21 f22 f23 f24 f25 f26 f27 f28 f29 f31 f32 f33 f34 f35 f36 := by
  obtain ⟨⟨c1, c2, c3⟩, hsv, hso, ⟨t1, t2, t3⟩, hG, hT, ⟨v1, v2, v3, v4, v5, v6, v7, v8⟩, h17, hJ, hW, hv, hs, hX, hw⟩ := h
  exact ⟨⟨c1, c2, c3⟩, hsv, hso, ⟨t1, t2, t3⟩, hG, hT, ⟨v1, rfl, v3, Or.inl rfl, v5, v6, v7, v8⟩, h17, hJ, hW, hv, hs, wfX_beg hX hb hd, hw⟩
theorem MM_lft  (h : MM g wo v0 f0 low 1 ew fs r v f1 f17 f21 f22 f23 f24 f25 f26 f27 f28 f29 f31 f32 f33 f34 f35 f36)  : MM g wo v0 f0 low 0 ew fs (lftS r) (upd v 11 (nI (rsL r + 1))) f1 f17 f21 f22 f23 f24 f25 f26 f27 f28 f29 f31 f32 f33 f34 f35 f36 := by
  obtain ⟨⟨c1, c2, c3⟩, hsv, hso, ⟨t1, t2, t3⟩, hG, hT, ⟨v1, v2, v3, v4, v5, v6, v7, v8⟩, h17, hJ, hW, hv, hs, hX, hw⟩ := h
  exact ⟨⟨c1, c2, c3⟩, hsv, hso, ⟨t1, t2, t3⟩, hG, hT, ⟨v1, v2, rfl, v4, v5, v6, v7, v8⟩, h17, hJ, hW, hv, hs, wfX_lft hX, hw⟩
theorem MM_push {kd t ky nm w d f : Nat} {ch : List Nat} (h : MM g wo v0 f0 low 1 ew fs r v f1 f17 f21 f22 f23 f24 f25 f26 f27 f28 f29 f31 f32 f33 f34 f35 f36) (h1 : kd < 3) (ht : t < 4) (hk : ky < 100) (hn : nm < 1000) (hg : wgt (rsT r) kd t ky nm = some w) (hc : ch.length = d) (hcD : d ≤ cD g) (hx : ∀ x ∈ ch, x < 12) (hp : rCh f21 ch) (hl : low + fs.length = d) (hf : 9 ≤ f + d) (hm : ¬ (mkS fs).testBit t = true) : MM g wo v0 f0 low 0 ew ((kd, t, ky, nm, w, 0, 0, ch, f) :: fs) r (upd v 20 (nI d)) f1 f17 f21 (upd f22 d (nI kd)) (upd f23 d (nI t)) (upd f24 d (nI ky)) (upd f25 d (nI nm)) (upd f26 d (nI w)) (upd f27 d (nI 0)) (upd f28 d (nI 0)) (upd f29 t (nI 1)) f31 f32 f33 f34 f35 f36 := by
  obtain ⟨⟨c1, c2, c3⟩, hsv, hso, ⟨t1, t2, t3⟩, hG, hT, ⟨v1, v2, v3, v4, v5, v6, v7, v8⟩, h17, hJ, hW, hv, hs, hX, hw⟩ := h
  have hm2 : (mkS fs).testBit t = false := by
    cases q : (mkS fs).testBit t with
    | false => rfl
    | true => exact absurd q hm
  refine ⟨⟨c1, c2, c3⟩, hsv, hso, ⟨t1, t2, ?_⟩, hG, hT, ⟨v1, v2, v3, v4, v5, v6, v7, v8⟩, h17, hJ, hW, ?_, ?_, hX, hw⟩
  · show nI d = nI (low + fs.length)
    rw [hl]
  · intro u hu
    show _ = bC ((mkS fs ||| 2 ^ t).testBit u = true)
    by_cases q : u = t
    · subst q
      rw [upd_e rfl]
      refine (bC_t ?_).symm
      rw [Nat.testBit_or, Nat.testBit_two_pow_self]; simp
    · rw [upd_n q, hv u hu]
      refine bC_iff ?_
      rw [Nat.testBit_or, Nat.testBit_two_pow_of_ne (fun z => q z.symm), Bool.or_false]
  · refine ⟨hc.trans hl.symm, ?_, hp, ⟨h1, ht, hk, hn, wgt_lt hX.1 ht hn hg, Nat.zero_le _, Nat.zero_le _, hx, by show ch.length ≤ _; omega, by show 9 ≤ f + ch.length; omega, fun _ => hg⟩, hm2, ?_⟩
    · rw [hl]
      exact ⟨upd_e rfl, upd_e rfl, upd_e rfl, upd_e rfl, upd_e rfl, upd_e rfl, upd_e rfl⟩
    · exact stM_eq fs (fun k hk => rfl) (fun k hk => ⟨upd_n (by omega), upd_n (by omega), upd_n (by omega), upd_n (by omega), upd_n (by omega), upd_n (by omega), upd_n (by omega)⟩) (fun u _ => sameT.rfl') hs
theorem MM_next {kd t ky nm w st nx d f : Nat} {ch : List Nat} (h : MM g wo v0 f0 low e ew ((kd, t, ky, nm, w, st, nx, ch, f) :: fs) r v f1 f17 f21 f22 f23 f24 f25 f26 f27 f28 f29 f31 f32 f33 f34 f35 f36) (hd : ch.length = d) (hx : nx < (cR g).1) : MM g wo v0 f0 low e ew ((kd, t, ky, nm, w, st, (nx + 1), ch, f) :: fs) r v f1 f17 f21 f22 f23 f24 f25 f26 f27 (upd f28 d (nI (nx + 1))) f29 f31 f32 f33 f34 f35 f36 := by
  obtain ⟨⟨c1, c2, c3⟩, hsv, hso, ⟨t1, t2, t3⟩, hG, hT, ⟨v1, v2, v3, v4, v5, v6, v7, v8⟩, h17, hJ, hW, hv, hs, hX, hw⟩ := h
  obtain ⟨a1, ⟨b1, b2, b3, b4, b5, b6, b7⟩, a3, ⟨w1, w2, w3, w4, w5, w6, w7, w8, w9, w10, w11⟩, a5, a6⟩ := hs
  have hld : low + fs.length = d := a1.symm.trans hd
  have hn12 := c1.2.2.1
  refine ⟨⟨c1, c2, c3⟩, hsv, hso, ⟨t1, t2, t3⟩, hG, hT, ⟨v1, v2, v3, v4, v5, v6, v7, v8⟩, h17, hJ, hW, hv, ⟨a1, ⟨b1, b2, b3, b4, b5, b6, ?_⟩, a3, ⟨w1, w2, w3, w4, w5, w6, hx, w8, w9, w10, w11⟩, a5, stM_eq fs (fun k hk => rfl) (fun k hk => ⟨rfl, rfl, rfl, rfl, rfl, rfl, upd_n (by omega)⟩) (fun u _ => sameT.rfl') a6⟩, hX, ?_⟩
  · rw [hld]
    exact upd_e rfl
  · have hw2 : (rsW r).1 + (wS fs + (if st = 0 then 0 else if st = 1 then 12 else 12 - nx)) + ew ≤ 12 * (rsJ r).1 := hw
    show (rsW r).1 + (wS fs + (if st = 0 then 0 else if st = 1 then 12 else 12 - (nx + 1))) + ew ≤ 12 * (rsJ r).1
    by_cases q0 : st = 0
    · rw [if_pos q0] at hw2 ⊢; exact hw2
    · rw [if_neg q0] at hw2 ⊢
      by_cases q1 : st = 1
      · rw [if_pos q1] at hw2 ⊢; exact hw2
      · rw [if_neg q1] at hw2 ⊢; omega
theorem MM_next2 {kd t ky nm w st nx d f : Nat} {ch : List Nat} (h : MM g wo v0 f0 low e ew ((kd, t, ky, nm, w, 2, nx, ch, f) :: fs) r v f1 f17 f21 f22 f23 f24 f25 f26 f27 f28 f29 f31 f32 f33 f34 f35 f36) (hd : ch.length = d) (hx : nx < (cR g).1) : MM g wo v0 f0 low e (ew + 1) ((kd, t, ky, nm, w, 2, (nx + 1), ch, f) :: fs) r v f1 f17 f21 f22 f23 f24 f25 f26 f27 (upd f28 d (nI (nx + 1))) f29 f31 f32 f33 f34 f35 f36 := by
  obtain ⟨⟨c1, c2, c3⟩, hsv, hso, ⟨t1, t2, t3⟩, hG, hT, ⟨v1, v2, v3, v4, v5, v6, v7, v8⟩, h17, hJ, hW, hv, hs, hX, hw⟩ := h
  obtain ⟨a1, ⟨b1, b2, b3, b4, b5, b6, b7⟩, a3, ⟨w1, w2, w3, w4, w5, w6, w7, w8, w9, w10, w11⟩, a5, a6⟩ := hs
  have hld : low + fs.length = d := a1.symm.trans hd
  have hn12 := c1.2.2.1
  refine ⟨⟨c1, c2, c3⟩, hsv, hso, ⟨t1, t2, t3⟩, hG, hT, ⟨v1, v2, v3, v4, v5, v6, v7, v8⟩, h17, hJ, hW, hv, ⟨a1, ⟨b1, b2, b3, b4, b5, b6, ?_⟩, a3, ⟨w1, w2, w3, w4, w5, w6, hx, w8, w9, w10, w11⟩, a5, stM_eq fs (fun k hk => rfl) (fun k hk => ⟨rfl, rfl, rfl, rfl, rfl, rfl, upd_n (by omega)⟩) (fun u _ => sameT.rfl') a6⟩, hX, ?_⟩
  · rw [hld]
    exact upd_e rfl
  · have hw2 : (rsW r).1 + (wS fs + (12 - nx)) + ew ≤ 12 * (rsJ r).1 := hw
    show (rsW r).1 + (wS fs + (12 - (nx + 1))) + (ew + 1) ≤ 12 * (rsJ r).1
    omega
theorem MM_wait {i t ky d : Nat} {ch : List Nat} {g35 : Nat → Int32} (h : MM g wo v0 f0 low e 1 fs r v f1 f17 f21 f22 f23 f24 f25 f26 f27 f28 f29 f31 f32 f33 f34 f35 f36) (hi : i < (cR g).1) (ht : t < 4) (hk : ky < 100) (hd : ch.length = d) (hc : d ≤ cD g) (hx : ∀ x ∈ ch, x < 12) (e1 : ∀ k, k < d → g35 (10 * (rsW r).1 + k) = nI (ch.getD k 0)) (e2 : ∀ j, j < 10 * (rsW r).1 → g35 j = f35 j) : MM g wo v0 f0 low e 0 fs (waitS r i t ky ch) (upd v 30 (nI ((rsW r).1 + 1))) f1 f17 f21 f22 f23 f24 f25 f26 f27 f28 f29 (upd f31 (rsW r).1 (nI i)) (upd f32 (rsW r).1 (nI t)) (upd f33 (rsW r).1 (nI ky)) (upd f34 (rsW r).1 (nI d)) g35 f36 := by
  obtain ⟨⟨c1, c2, c3⟩, hsv, hso, ⟨t1, t2, t3⟩, hG, hT, ⟨v1, v2, v3, v4, v5, v6, v7, v8⟩, h17, hJ, hW, hv, hs, hX, hw⟩ := h
  subst hd
  obtain ⟨x1, x2, x3, x4, x5, x6, x7⟩ := hX
  refine ⟨⟨c1, c2, c3⟩, hsv, hso, ⟨t1, t2, t3⟩, hG, hT, ⟨v1, v2, v3, v4, v5, v6, v7, rfl⟩, h17, hJ, ?_, hv, hs, ⟨x1, x2, x3, x4, ?_, fun j hj => ?_, x7⟩, ?_⟩
  · intro j hj
    have hj2 : j < (rsW r).1 + 1 := hj
    have hl9 := c1.1
    show _ = nI (if j = (rsW r).1 then (i, t, ky, ch) else (rsW r).2 j).1 ∧ _ = nI (if j = (rsW r).1 then (i, t, ky, ch) else (rsW r).2 j).2.1 ∧ _ = nI (if j = (rsW r).1 then (i, t, ky, ch) else (rsW r).2 j).2.2.1 ∧ _ = nI (if j = (rsW r).1 then (i, t, ky, ch) else (rsW r).2 j).2.2.2.length ∧ ∀ k, k < (if j = (rsW r).1 then (i, t, ky, ch) else (rsW r).2 j).2.2.2.length → _ = nI ((if j = (rsW r).1 then (i, t, ky, ch) else (rsW r).2 j).2.2.2.getD k 0)
    by_cases q : j = (rsW r).1
    · rw [if_pos q, q]
      exact ⟨upd_e rfl, upd_e rfl, upd_e rfl, upd_e rfl, e1⟩
    · rw [if_neg q]
      have h0 := hW j (by omega)
      have hlw := (x6 j (by omega)).2.2.2.1
      exact ⟨(upd_n q).trans h0.1, (upd_n q).trans h0.2.1, (upd_n q).trans h0.2.2.1, (upd_n q).trans h0.2.2.2.1, fun k hk2 => (e2 _ (by omega)).trans (h0.2.2.2.2 k hk2)⟩
  · show (rsW r).1 + 1 + 12 * 0 ≤ 12 * (rsJ r).1
    omega
  · have hj2 : j < (rsW r).1 + 1 := hj
    show wfW g (if j = (rsW r).1 then (i, t, ky, ch) else (rsW r).2 j)
    by_cases q : j = (rsW r).1
    · rw [if_pos q]
      exact ⟨hi, ht, hk, hc, hx⟩
    · rw [if_neg q]
      exact x6 j (by omega)
  · show (rsW r).1 + 1 + wS fs + 0 ≤ 12 * (rsJ r).1
    omega
theorem MM_done {kd t ky nm w nx d f : Nat} {ch : List Nat} {g1 : Nat → Int32} {y : Int32} (h : MM g wo v0 f0 low e ew ((kd, t, ky, nm, w, 0, nx, ch, f) :: fs) r v f1 f17 f21 f22 f23 f24 f25 f26 f27 f28 f29 f31 f32 f33 f34 f35 f36) (hd : ch.length = d) (hy : y = nI 1) (hg1 : rMT g1 (appT (rsT r) kd t ky w)) (hgo : sMO f1 g1) : MM g wo v0 f0 low e ew ((kd, t, ky, nm, w, 1, 0, ch, f) :: fs) (doneS r kd t ky w ch) (upd v 13 (nI ((rsJ r).1 + 1))) g1 f17 f21 f22 f23 f24 f25 f26 (upd f27 d y) (upd f28 d (nI 0)) f29 f31 f32 f33 f34 f35 (upd (upd (upd (upd (upd (upd f36 (6 * (rsJ r).1) (jrow kd t ky w ch 0)) (6 * (rsJ r).1 + 1) (jrow kd t ky w ch 1)) (6 * (rsJ r).1 + 2) (jrow kd t ky w ch 2)) (6 * (rsJ r).1 + 3) (jrow kd t ky w ch 3)) (6 * (rsJ r).1 + 4) (jrow kd t ky w ch 4)) (6 * (rsJ r).1 + 5) (jrow kd t ky w ch 5)) := by
  obtain ⟨⟨c1, c2, c3⟩, hsv, hso, ⟨t1, t2, t3⟩, hG, hT, ⟨v1, v2, v3, v4, v5, v6, v7, v8⟩, h17, hJ, hW, hv, hs, hX, hw⟩ := h
  obtain ⟨a1, ⟨b1, b2, b3, b4, b5, b6, b7⟩, a3, ⟨w1, w2, w3, w4, w5, w6, w7, w8, w9, w10, w11⟩, a5, a6⟩ := hs
  have hld : low + fs.length = d := a1.symm.trans hd
  have hX2 : wfX g (kS fs + e + 1) 0 r := wfX_le hX (by show kS fs + e + 1 ≤ kS fs + 1 + e; omega)
  refine ⟨⟨c1, c2, c3⟩, hsv, hso.trans hgo, ⟨t1, t2, t3⟩, rMG_eq c1 hG hgo, hg1, ⟨v1, v2, v3, v4, rfl, v6, v7, v8⟩, h17, rJ_done2 hJ, hW, hv, ⟨a1, ⟨b1, b2, b3, b4, b5, ?_, ?_⟩, a3, ⟨w1, w2, w3, w4, w5, by show 1 ≤ 2; omega, Nat.zero_le _, w8, w9, w10, fun z => absurd z (show ¬ (1 : Nat) = 0 by decide)⟩, a5, stM_eq fs (fun k hk => rfl) (fun k hk => ⟨rfl, rfl, rfl, rfl, rfl, upd_n (by omega), upd_n (by omega)⟩) (fun u hu => ?_) a6⟩, wfX_lessq (wfX_done hX2 w2 w3 w4 (w11 rfl)), ?_⟩
  · rw [hld]; exact (upd_e rfl).trans hy
  · rw [hld]; exact upd_e rfl
  · refine sameT_app (fun z => ?_)
    subst z
    rw [a5] at hu
    cases hu
  · have hw2 : (rsW r).1 + (wS fs + 0) + ew ≤ 12 * (rsJ r).1 := hw
    show (rsW r).1 + (wS fs + 12) + ew ≤ 12 * ((rsJ r).1 + 1)
    omega
theorem MM_st1 {kd t ky nm w nx d f : Nat} {ch : List Nat} {y : Int32} (h : MM g wo v0 f0 low e ew ((kd, t, ky, nm, w, 1, nx, ch, f) :: fs) r v f1 f17 f21 f22 f23 f24 f25 f26 f27 f28 f29 f31 f32 f33 f34 f35 f36) (hd : ch.length = d) (hy : y = nI 2) : MM g wo v0 f0 low e ew ((kd, t, ky, nm, w, 2, 0, ch, f) :: fs) r v f1 f17 f21 f22 f23 f24 f25 f26 (upd f27 d y) (upd f28 d (nI 0)) f29 f31 f32 f33 f34 f35 f36 := by
  obtain ⟨⟨c1, c2, c3⟩, hsv, hso, ⟨t1, t2, t3⟩, hG, hT, ⟨v1, v2, v3, v4, v5, v6, v7, v8⟩, h17, hJ, hW, hv, hs, hX, hw⟩ := h
  obtain ⟨a1, ⟨b1, b2, b3, b4, b5, b6, b7⟩, a3, ⟨w1, w2, w3, w4, w5, w6, w7, w8, w9, w10, w11⟩, a5, a6⟩ := hs
  have hld : low + fs.length = d := a1.symm.trans hd
  exact ⟨⟨c1, c2, c3⟩, hsv, hso, ⟨t1, t2, t3⟩, hG, hT, ⟨v1, v2, v3, v4, v5, v6, v7, v8⟩, h17, hJ, hW, hv, ⟨a1, ⟨b1, b2, b3, b4, b5, by rw [hld]; exact (upd_e rfl).trans hy, by rw [hld]; exact upd_e rfl⟩, a3, ⟨w1, w2, w3, w4, w5, Nat.le_refl _, Nat.zero_le _, w8, w9, w10, fun z => absurd z (by show ¬ 2 = 0; decide)⟩, a5, stM_eq fs (fun k hk => rfl) (fun k hk => ⟨rfl, rfl, rfl, rfl, rfl, upd_n (by omega), upd_n (by omega)⟩) (fun u _ => sameT.rfl') a6⟩, hX, hw⟩
theorem MM_pop {kd t ky nm w nx d f : Nat} {ch : List Nat} {y : Int32} (h : MM g wo v0 f0 low e ew ((kd, t, ky, nm, w, 2, nx, ch, f) :: fs) r v f1 f17 f21 f22 f23 f24 f25 f26 f27 f28 f29 f31 f32 f33 f34 f35 f36) (hd : ch.length = d) (hl9 : d ≤ 9) : MM g wo v0 f0 low e ew fs r (upd v 20 (nI d - nI 1)) f1 f17 f21 f22 f23 f24 f25 f26 (upd f27 d y) (upd f28 d (nI 0)) (upd f29 t (nI 0)) f31 f32 f33 f34 f35 f36 := by
  obtain ⟨⟨c1, c2, c3⟩, hsv, hso, ⟨t1, t2, t3⟩, hG, hT, ⟨v1, v2, v3, v4, v5, v6, v7, v8⟩, h17, hJ, hW, hv, hs, hX, hw⟩ := h
  obtain ⟨a1, ⟨b1, b2, b3, b4, b5, b6, b7⟩, a3, ⟨w1, w2, w3, w4, w5, w6, w7, w8, w9, w10, w11⟩, a5, a6⟩ := hs
  have hld : low + fs.length = d := a1.symm.trans hd
  refine ⟨⟨c1, c2, c3⟩, hsv, hso, ⟨t1, t2, ?_⟩, hG, hT, ⟨v1, v2, v3, v4, v5, v6, v7, v8⟩, h17, hJ, hW, ?_, stM_eq fs (fun k hk => rfl) (fun k hk => ⟨rfl, rfl, rfl, rfl, rfl, upd_n (by omega), upd_n (by omega)⟩) (fun u _ => sameT.rfl') a6, hX, ?_⟩
  · cases fs with
    | nil =>
      have e9 : d = low := hld.symm
      subst e9
      exact sub1_low d (by omega)
    | cons F9 fs9 =>
      have e9 : low + (fs9.length + 1) = d := hld
      show nI d - nI 1 = nI (low + fs9.length)
      rw [pk_sub (by omega)]
      exact congrArg nI (by omega)
  · intro u hu
    by_cases q : u = t
    · subst q
      rw [upd_e rfl]
      exact (bC_f (by rw [a5]; decide)).symm
    · rw [upd_n q, hv u hu]
      refine bC_iff ?_
      show (mkS fs ||| 2 ^ t).testBit u = true ↔ _
      rw [Nat.testBit_or, Nat.testBit_two_pow_of_ne (fun z => q z.symm), Bool.or_false]
  · have hw2 : (rsW r).1 + (wS fs + (12 - nx)) + ew ≤ 12 * (rsJ r).1 := hw
    omega
theorem MM_path {d i : Nat} (h : MM g wo v0 f0 low e ew fs r v f1 f17 f21 f22 f23 f24 f25 f26 f27 f28 f29 f31 f32 f33 f34 f35 f36) (hl : low + fs.length = d + 1) : MM g wo v0 f0 low e ew fs r v f1 f17 (upd f21 d (nI i)) f22 f23 f24 f25 f26 f27 f28 f29 f31 f32 f33 f34 f35 f36 := by
  obtain ⟨⟨c1, c2, c3⟩, hsv, hso, ⟨t1, t2, t3⟩, hG, hT, ⟨v1, v2, v3, v4, v5, v6, v7, v8⟩, h17, hJ, hW, hv, hs, hX, hw⟩ := h
  exact ⟨⟨c1, c2, c3⟩, hsv, hso, ⟨t1, t2, t3⟩, hG, hT, ⟨v1, v2, v3, v4, v5, v6, v7, v8⟩, h17, hJ, hW, hv, stM_eq fs (fun k hk => upd_n (by omega)) (fun k hk => ⟨rfl, rfl, rfl, rfl, rfl, rfl, rfl⟩) (fun u _ => sameT.rfl') hs, hX, hw⟩
theorem MM_top {kd t ky nm w st nx d f : Nat} {ch : List Nat} (h : MM g wo v0 f0 low e ew ((kd, t, ky, nm, w, st, nx, ch, f) :: fs) r v f1 f17 f21 f22 f23 f24 f25 f26 f27 f28 f29 f31 f32 f33 f34 f35 f36) (hd : ch.length = d) : v 20 = nI d ∧ f22 d = nI kd ∧ f23 d = nI t ∧ f24 d = nI ky ∧ f25 d = nI nm ∧ f26 d = nI w ∧ f27 d = nI st ∧ f28 d = nI nx ∧ rCh f21 ch ∧ kd < 3 ∧ t < 4 ∧ ky < 100 ∧ nm < 1000 ∧ w < 1000 ∧ st ≤ 2 ∧ nx ≤ (cR g).1 ∧ (∀ x ∈ ch, x < 12) ∧ d ≤ cD g ∧ 9 ≤ f + d ∧ (st = 0 → wgt (rsT r) kd t ky nm = some w) ∧ low + fs.length = d := by
  obtain ⟨⟨c1, c2, c3⟩, hsv, hso, ⟨t1, t2, t3⟩, hG, hT, ⟨v1, v2, v3, v4, v5, v6, v7, v8⟩, h17, hJ, hW, hv, hs, hX, hw⟩ := h
  obtain ⟨a1, ⟨b1, b2, b3, b4, b5, b6, b7⟩, a3, ⟨w1, w2, w3, w4, w5, w6, w7, w8, w9, w10, w11⟩, a5, a6⟩ := hs
  have hld : low + fs.length = d := a1.symm.trans hd
  subst hld
  have t3b : v 20 = nI (low + fs.length) := t3
  have a1b : ch.length = low + fs.length := a1
  exact ⟨t3b, b1, b2, b3, b4, b5, b6, b7, a3, w1, w2, w3, w4, w5, w6, w7, w8, a1b ▸ w9, a1b ▸ w10, w11, rfl⟩
theorem MM_bas  (h : MM g wo v0 f0 low e ew fs r v f1 f17 f21 f22 f23 f24 f25 f26 f27 f28 f29 f31 f32 f33 f34 f35 f36)  : wfC g ∧ (cD g ≤ 8 ∧ cL g ≤ 1 ∧ (cR g).1 ≤ 12) ∧ f1 0 = nI (cD g) ∧ f1 1 = nI (cL g) ∧ rMR f1 (cR g) ∧ rMT f1 (rsT r) ∧ wfT (rsT r) ∧ rsB r ≤ 100 ∧ (rsJ r).1 + rsL r + kS fs + e ≤ rsB r ∧ (rsW r).1 ≤ 1200 ∧ rsP r ≤ 8 ∧ rMv f29 (mkS fs) ∧ low ≤ 9 ∧ v 18 = wo ∧ (∀ i, i < 12 → (nI i = wo ↔ i = cO g)) := by
  obtain ⟨⟨c1, c2, c3⟩, hsv, hso, ⟨t1, t2, t3⟩, hG, hT, ⟨v1, v2, v3, v4, v5, v6, v7, v8⟩, h17, hJ, hW, hv, hs, hX, hw⟩ := h
  have hx2 := hX.2.1
  have hx3 := hX.2.2.1
  have hx5 := hX.2.2.2.2.1
  exact ⟨c1, ⟨c1.1, c1.2.1, c1.2.2.1⟩, hG.1, hG.2.1, hG.2.2, hT, hX.1, hx3, by omega, by omega, hX.2.2.2.1, hv, c3, t1, c2⟩
theorem MM_v  (h : MM g wo v0 f0 low e ew fs r v f1 f17 f21 f22 f23 f24 f25 f26 f27 f28 f29 f31 f32 f33 f34 f35 f36)  : v 9 = nI (rsn r) ∧ v 10 = nI (rsB r) ∧ v 11 = nI (rsL r) ∧ (v 12 = nI (rsP r) ∨ (v 12 = -6 ∧ rsP r = 0 ∧ rsB r = 0)) ∧ v 13 = nI (rsJ r).1 ∧ v 16 = nI (rsF r).2.2.2.length ∧ v 19 = nI low ∧ v 30 = nI (rsW r).1 := by
  obtain ⟨⟨c1, c2, c3⟩, hsv, hso, ⟨t1, t2, t3⟩, hG, hT, ⟨v1, v2, v3, v4, v5, v6, v7, v8⟩, h17, hJ, hW, hv, hs, hX, hw⟩ := h
  exact ⟨v1, v2, v3, v4, v5, v7, t2, v8⟩
theorem MM_low {low2 d : Nat} {g21 : Nat → Int32} (h : MM g wo v0 f0 low 0 0 [] r v f1 f17 f21 f22 f23 f24 f25 f26 f27 f28 f29 f31 f32 f33 f34 f35 f36) (hd : d < low2) (hl : low2 ≤ 9) : MM g wo v0 f0 low2 0 0 [] r (upd (upd v 19 (nI low2)) 20 (nI d)) f1 f17 g21 f22 f23 f24 f25 f26 f27 f28 f29 f31 f32 f33 f34 f35 f36 := by
  obtain ⟨⟨c1, c2, c3⟩, hsv, hso, ⟨t1, t2, t3⟩, hG, hT, ⟨v1, v2, v3, v4, v5, v6, v7, v8⟩, h17, hJ, hW, hv, hs, hX, hw⟩ := h
  exact ⟨⟨c1, c2, hl⟩, hsv, hso, ⟨t1, rfl, nI_lt hd (by omega)⟩, hG, hT, ⟨v1, v2, v3, v4, v5, v6, v7, v8⟩, h17, hJ, hW, hv, trivial, hX, hw⟩
theorem MM_out  (h : MM g wo v0 f0 low e ew fs r v f1 f17 f21 f22 f23 f24 f25 f26 f27 f28 f29 f31 f32 f33 f34 f35 f36)  : SV v0 v ∧ sMO f0 f1 ∧ rMT f1 (rsT r) ∧ rMV v r ∧ rCh f17 (rsF r).2.2.2 ∧ rJ f36 (rsJ r) ∧ rMW f31 f32 f33 f34 f35 (rsW r) ∧ wfX g 0 0 r ∧ tpO (v 20) low fs := by
  obtain ⟨⟨c1, c2, c3⟩, hsv, hso, ⟨t1, t2, t3⟩, hG, hT, ⟨v1, v2, v3, v4, v5, v6, v7, v8⟩, h17, hJ, hW, hv, hs, hX, hw⟩ := h
  exact ⟨hsv, hso, hT, ⟨v1, v2, v3, v4, v5, v6, v7, v8⟩, h17, hJ, hW, wfX_le hX (Nat.zero_le _), t3⟩
end MMS
theorem MM_init {g : CF} {wo : Int32} {τ : TB} {v f1 f17 f21 f22 f23 f24 f25 f26 f27 f28 f29 f31 f32 f33 f34 f35 f36 : Nat → Int32} (hC : wfC g) (hwo : ∀ i, i < 12 → (nI i = wo ↔ i = cO g)) (h18 : v 18 = wo) (hG : rMG f1 g) (hT : rMT f1 τ) (hw : wfT τ) : MM g wo v f1 0 0 0 [] (r0S τ) (upd (upd (upd (upd (upd (upd (upd (upd (upd v 9 (nI 0)) 10 (nI 0)) 11 (nI 0)) 12 (-6)) 13 (nI 0)) 30 (nI 0)) 16 (nI 0)) 19 (nI 0)) 20 (-6)) f1 f17 f21 f22 f23 f24 f25 f26 f27 f28 (upd (upd (upd (upd f29 0 (nI 0)) 1 (nI 0)) 2 (nI 0)) 3 (nI 0)) f31 f32 f33 f34 f35 f36 := by
  refine ⟨⟨hC, hwo, Nat.zero_le _⟩, ⟨rfl, rfl, rfl, rfl, rfl, rfl, rfl⟩, sMO.rfl', ⟨h18, rfl, (by decide : (-6 : Int32) < nI 0)⟩, hG, hT, ⟨rfl, rfl, rfl, Or.inr ⟨rfl, rfl, rfl⟩, rfl, fun z => absurd rfl z, rfl, rfl⟩, fun k hk => absurd hk (Nat.not_lt_zero _), fun i hi => absurd hi (Nat.not_lt_zero _), fun i hi => absurd hi (Nat.not_lt_zero _), ?_, trivial, wfX_r0 hw, Nat.le_refl _⟩
  intro u hu
  rcases (show u = 0 ∨ u = 1 ∨ u = 2 ∨ u = 3 by omega) with rfl | rfl | rfl | rfl <;> exact (bC_f (by decide)).symm
theorem rCh_app {f21 : Nat → Int32} {ch : List Nat} {d i : Nat} (hc : ch.length = d) (h : rCh f21 ch) : rCh (upd f21 d (nI i)) (ch ++ [i]) := by
  intro k hk
  rw [len_app] at hk
  by_cases q : k = d
  · rw [upd_e q, q, ← hc, List.getD_eq_getElem?_getD, List.getElem?_append_right (Nat.le_refl _)]
    simp
  · rw [upd_n q, h k (by omega), List.getD_eq_getElem?_getD, List.getD_eq_getElem?_getD, List.getElem?_append_left (by omega)]
theorem mkr_last {ch : List Nat} (h : 0 < ch.length) : mkr ch = nI (ch.getD (ch.length - 1) 0) := by
  unfold mkr
  rw [List.getLast?_eq_getElem?, List.getD_eq_getElem?_getD, List.getElem?_eq_getElem (by omega)]
  rfl
theorem wgt_0 {τ : TB} {kd t ky nm w : Nat} (hk : kd = 0) (h : wgt τ kd t ky nm = some w) : plT τ t ky = zT τ t ∧ zT τ t < 12 ∧ w = nm := by
  unfold wgt at h
  rw [if_pos hk] at h
  split at h
  · rename_i h1
    exact ⟨h1.1, h1.2, (Option.some.inj h).symm⟩
  · cases h
theorem wgt_n {τ : TB} {kd t ky nm w : Nat} (hk : ¬ kd = 0) (h : wgt τ kd t ky nm = some w) : plT τ t ky < zT τ t ∧ (kd = 2 → w = nT τ t (plT τ t ky)) ∧ (¬ kd = 2 → w = nT τ t (plT τ t ky) + nm) := by
  unfold wgt at h
  rw [if_neg hk] at h
  split at h
  · cases h
  · rename_i h1
    refine ⟨Nat.lt_of_le_of_ne (fpl_le _ _ _) h1, ?_, ?_⟩
    · intro h2
      rw [if_pos h2] at h
      exact (Option.some.inj h).symm
    · intro h2
      rw [if_neg h2] at h
      split at h
      · exact (Option.some.inj h).symm
      · cases h
theorem app_0 {τ : TB} {kd t ky w : Nat} (hk : kd = 0) : layT τ t ky w = appT τ kd t ky w := by unfold appT; rw [if_pos hk]
theorem app_1 {τ : TB} {kd t ky w : Nat} (hk : kd = 1) : setT τ t (plT τ t ky) w = appT τ kd t ky w := by unfold appT; rw [if_neg (by omega), if_pos hk]
theorem app_2 {τ : TB} {kd t ky w : Nat} (hk : ¬ kd = 0) (hk1 : ¬ kd = 1) : drpT τ t (plT τ t ky) = appT τ kd t ky w := by unfold appT; rw [if_neg hk, if_neg hk1]
theorem mx_F {x : Int32} {p d b : Nat} (h : x = nI p ∨ (x = -6 ∧ p = 0 ∧ b = 0)) (hp : p ≤ 8) (hd : d ≤ 9) (h2 : x < nI d) : d = max p d := by
  rcases h with rfl | ⟨-, rfl, -⟩
  · have := (nI_ltI (by omega) (by omega)).mp h2
    omega
  · omega
theorem m6_lt : ∀ d, d < 10 → ¬ nI d ≤ -6 := by decide +kernel
theorem mx_T {x : Int32} {p d b : Nat} (h : x = nI p ∨ (x = -6 ∧ p = 0 ∧ b = 0)) (hp : p ≤ 8) (hd : d ≤ 9) (h2 : nI d ≤ x) : x = nI (max p d) := by
  rcases h with rfl | ⟨rfl, -, -⟩
  · have := (nI_leI (by omega) (by omega)).mp h2
    rw [Nat.max_eq_left this]
  · exact absurd h2 (m6_lt d (by omega))
theorem deed_0 {g : CF} {run : Nat → Nat → Nat → Nat → List Nat → RS → RS} {t ky i : Nat} {ch : List Nat} {r : RS} (h : (cR g).2 i 4 = 0) : failS r 5 t ky (ch ++ [i]) = deedS g run t ky ch i r := by unfold deedS; rw [if_pos h]
theorem deed_1 {g : CF} {run : Nat → Nat → Nat → Nat → List Nat → RS → RS} {t ky i : Nat} {ch : List Nat} {r : RS} (h : ¬ (cR g).2 i 4 = 0) : run ((cR g).2 i 4 - 1) ((cR g).2 i 5) ((ky + (cR g).2 i 6) % 100) ((cR g).2 i 7) (ch ++ [i]) r = deedS g run t ky ch i r := by unfold deedS; rw [if_neg h]
