/-! PURE: how a statement is carried out -/
abbrev JR : Type := Nat × (Nat → Nat → Int32)
/-- a trigger that waits: its number, the table and the key of the statement that set it off, that statement's chain -/
abbrev WT : Type := Nat × Nat × Nat × List Nat
/-- what failed: the reason (0: nothing), the table, the key, the chain -/
abbrev FT : Type := Nat × Nat × Nat × List Nat
/-- the course of a statement: tables, journal, how many were begun, the greatest depth, how many were left out, who waits, what failed -/
abbrev RS : Type := TB × JR × Nat × Nat × Nat × (Nat × (Nat → WT)) × FT
abbrev rsT (r : RS) : TB := r.1
abbrev rsJ (r : RS) : JR := r.2.1
abbrev rsB (r : RS) : Nat := r.2.2.1
abbrev rsP (r : RS) : Nat := r.2.2.2.1
abbrev rsL (r : RS) : Nat := r.2.2.2.2.1
abbrev rsW (r : RS) : Nat × (Nat → WT) := r.2.2.2.2.2.1
abbrev rsF (r : RS) : FT := r.2.2.2.2.2.2
abbrev rsn (r : RS) : Nat := (rsF r).1
/-- what stays fixed: DEPTH, LENIENT, the trigger that is left away (99: none), the triggers -/
abbrev CF : Type := Nat × Nat × Nat × TR
abbrev cD (g : CF) : Nat := g.1
abbrev cL (g : CF) : Nat := g.2.1
abbrev cO (g : CF) : Nat := g.2.2.1
abbrev cR (g : CF) : TR := g.2.2.2
def mkr (ch : List Nat) : Int32 := match ch.getLast? with
  | none => -6
  | some m => nI m
theorem mkr_nil : mkr [] = -6 := rfl
theorem mkr_app (c : List Nat) (m : Nat) : mkr (c ++ [m]) = nI m := by simp [mkr]
def jrow (kd t ky w : Nat) (ch : List Nat) : Nat → Int32 := fun c => if c = 0 then nI kd else if c = 1 then nI t else if c = 2 then nI ky else if c = 3 then nI w else if c = 4 then nI ch.length else mkr ch
def failS (r : RS) (why t ky : Nat) (ch : List Nat) : RS := (rsT r, rsJ r, rsB r, rsP r, rsL r, rsW r, (why, t, ky, ch))
def begS (r : RS) (d : Nat) : RS := (rsT r, rsJ r, rsB r + 1, max (rsP r) d, rsL r, rsW r, rsF r)
def lftS (r : RS) : RS := (rsT r, rsJ r, rsB r, rsP r, rsL r + 1, rsW r, rsF r)
def doneS (r : RS) (kd t ky w : Nat) (ch : List Nat) : RS := (appT (rsT r) kd t ky w, ((rsJ r).1 + 1, fun i => if i = (rsJ r).1 then jrow kd t ky w ch else (rsJ r).2 i), rsB r, rsP r, rsL r, rsW r, rsF r)
def waitS (r : RS) (i t ky : Nat) (ch : List Nat) : RS := (rsT r, rsJ r, rsB r, rsP r, rsL r, ((rsW r).1 + 1, fun q => if q = (rsW r).1 then (i, t, ky, ch) else (rsW r).2 q), rsF r)
/-- a trigger is set off by a statement of this kind, on this table, of this weight, in a stage -/
def soff (g : CF) (i st kd t w : Nat) : Prop := ¬ i = cO g ∧ (cR g).2 i 2 = st ∧ (cR g).2 i 0 = t ∧ (cR g).2 i 1 = kd ∧ (cR g).2 i 3 ≤ w
/-- the deeds of a stage, from trigger i on -/
noncomputable def stg (g : CF) (st kd t w : Nat) (dd : Nat → RS → RS) : Nat → Nat → RS → RS
  | 0, _, r => r
  | m + 1, i, r => @ite _ (soff g i st kd t w) (Classical.propDecidable _) (if rsn (dd i r) = 0 then stg g st kd t w dd m (i + 1) (dd i r) else dd i r) (stg g st kd t w dd m (i + 1) r)
noncomputable def que (g : CF) (kd t w ky : Nat) (ch : List Nat) : Nat → Nat → RS → RS
  | 0, _, r => r
  | m + 1, i, r => que g kd t w ky ch m (i + 1) (@ite _ (soff g i 2 kd t w) (Classical.propDecidable _) (waitS r i t ky ch) r)
/-- a trigger's deed: 'run' carries a statement out (kind, table, key, number, chain) -/
def deedS (g : CF) (run : Nat → Nat → Nat → Nat → List Nat → RS → RS) (t ky : Nat) (ch : List Nat) (i : Nat) (r : RS) : RS :=
  if (cR g).2 i 4 = 0 then failS r 5 t ky (ch ++ [i]) else run ((cR g).2 i 4 - 1) ((cR g).2 i 5) ((ky + (cR g).2 i 6) % 100) ((cR g).2 i 7) (ch ++ [i]) r
/-- a statement is carried out; mo: the tables in motion; the first number: how many statements may stand within one another -/
noncomputable def car (g : CF) : Nat → Nat → Nat → Nat → Nat → Nat → List Nat → RS → RS
  | 0, _, _, _, _, _, _, r => r
  | f + 1, mo, kd, t, ky, nm, ch, r =>
    if cD g < ch.length then failS r 1 t ky ch
    else if 100 ≤ rsB r then failS r 2 t ky ch
    else if mo.testBit t = true then failS (begS r ch.length) 3 t ky ch
    else match wgt (rsT r) kd t ky nm with
      | none => if ch ≠ [] ∧ cL g = 1 then lftS (begS r ch.length) else failS (begS r ch.length) 4 t ky ch
      | some w =>
        let dd := deedS g (car g f (mo ||| 2 ^ t)) t ky ch
        let r2 := stg g 0 kd t w dd (cR g).1 0 (begS r ch.length)
        if rsn r2 = 0 then
          let r4 := stg g 1 kd t w dd (cR g).1 0 (doneS r2 kd t ky w ch)
          if rsn r4 = 0 then que g kd t w ky ch (cR g).1 0 r4 else r4
        else r2
/-- those that wait do their deeds -/
noncomputable def wtS (g : CF) : Nat → Nat → RS → RS
  | 0, _, r => r
  | m + 1, k, r => if rsn r = 0 ∧ k < (rsW r).1 then wtS g m (k + 1) (deedS g (car g 10 0) ((rsW r).2 k).2.1 ((rsW r).2 k).2.2.1 ((rsW r).2 k).2.2.2 ((rsW r).2 k).1 r) else r
def r0S (τ : TB) : RS := (τ, (0, fun _ _ => 0), 0, 0, 0, (0, fun _ => (0, 0, 0, [])), (0, 0, 0, []))
/-- a statement from outside -/
noncomputable def runS (g : CF) (kd t ky nm : Nat) (τ : TB) : RS := wtS g 1201 0 (car g 10 0 kd t ky nm [] (r0S τ))
/-! what holds in every course; k: how many statements were begun and are neither done nor left out; q: how many are done and their triggers of LAST don't wait yet -/
def wfC (g : CF) : Prop := cD g ≤ 8 ∧ cL g ≤ 1 ∧ wfR (cR g)
def wfW (g : CF) (w : WT) : Prop := w.1 < (cR g).1 ∧ w.2.1 < 4 ∧ w.2.2.1 < 100 ∧ w.2.2.2.length ≤ cD g ∧ ∀ x ∈ w.2.2.2, x < 12
def wfF (F : FT) : Prop := (F.1 = 0 → F = (0, 0, 0, [])) ∧ F.1 < 6 ∧ F.2.1 < 4 ∧ F.2.2.1 < 100 ∧ F.2.2.2.length ≤ 9 ∧ ∀ x ∈ F.2.2.2, x < 12
def wfX (g : CF) (k q : Nat) (r : RS) : Prop := wfT (rsT r) ∧ (rsJ r).1 + rsL r + k ≤ rsB r ∧ rsB r ≤ 100 ∧ rsP r ≤ 8 ∧ (rsW r).1 + 12 * q ≤ 12 * (rsJ r).1 ∧ (∀ i, i < (rsW r).1 → wfW g ((rsW r).2 i)) ∧ wfF (rsF r)
theorem wfX_fail {g : CF} {k q : Nat} {r : RS} {why t ky : Nat} {ch : List Nat} (h : wfX g k q r) (h1 : 0 < why) (h2 : why < 6) (ht : t < 4) (hk : ky < 100) (hc : ch.length ≤ 9) (hx : ∀ x ∈ ch, x < 12) : wfX g k q (failS r why t ky ch) := by
  obtain ⟨a1, a2, a3, a4, a5, a6, -⟩ := h
  exact ⟨a1, a2, a3, a4, a5, a6, fun (e : why = 0) => absurd e (by omega), h2, ht, hk, hc, hx⟩
theorem wfX_beg {g : CF} {k q : Nat} {r : RS} {d : Nat} (h : wfX g k q r) (hb : rsB r < 100) (hd : d ≤ 8) : wfX g (k + 1) q (begS r d) := by
  obtain ⟨a1, a2, a3, a4, a5, a6, a7⟩ := h
  refine ⟨a1, ?_, ?_, ?_, a5, a6, a7⟩
  · show (rsJ r).1 + rsL r + (k + 1) ≤ rsB r + 1
    omega
  · show rsB r + 1 ≤ 100
    omega
  · show max (rsP r) d ≤ 8
    omega
theorem wfX_lft {g : CF} {k q : Nat} {r : RS} (h : wfX g (k + 1) q r) : wfX g k q (lftS r) := by
  obtain ⟨a1, a2, a3, a4, a5, a6, a7⟩ := h
  refine ⟨a1, ?_, a3, a4, a5, a6, a7⟩
  show (rsJ r).1 + (rsL r + 1) + k ≤ rsB r
  omega
theorem wfX_less {g : CF} {k q : Nat} {r : RS} (h : wfX g (k + 1) q r) : wfX g k q r := by
  obtain ⟨a1, a2, a3, a4, a5, a6, a7⟩ := h
  exact ⟨a1, by omega, a3, a4, a5, a6, a7⟩
theorem wfX_lessq {g : CF} {k q : Nat} {r : RS} (h : wfX g k (q + 1) r) : wfX g k q r := by
  obtain ⟨a1, a2, a3, a4, a5, a6, a7⟩ := h
  exact ⟨a1, a2, a3, a4, by omega, a6, a7⟩
theorem wfX_done {g : CF} {k q : Nat} {r : RS} {kd t ky nm w : Nat} {ch : List Nat} (h : wfX g (k + 1) q r) (ht : t < 4) (hk : ky < 100) (hn : nm < 1000) (hg : wgt (rsT r) kd t ky nm = some w) : wfX g k (q + 1) (doneS r kd t ky w ch) := by
  obtain ⟨a1, a2, a3, a4, a5, a6, a7⟩ := h
  refine ⟨wfT_app a1 ht hk hn hg, ?_, a3, a4, ?_, a6, a7⟩
  · show (rsJ r).1 + 1 + rsL r + k ≤ rsB r
    omega
  · show (rsW r).1 + 12 * (q + 1) ≤ 12 * ((rsJ r).1 + 1)
    omega
theorem rsn_beg (r : RS) (d : Nat) : rsn (begS r d) = rsn r := rfl
theorem rsn_done (r : RS) (kd t ky w : Nat) (ch : List Nat) : rsn (doneS r kd t ky w ch) = rsn r := rfl
/-- a stage keeps what each deed keeps -/
theorem stg_ind {g : CF} {st kd t w : Nat} {dd : Nat → RS → RS} (P : RS → Prop) : ∀ (m i : Nat) (r : RS), (∀ j r, i ≤ j → j < i + m → P r → rsn r = 0 → soff g j st kd t w → P (dd j r)) → P r → rsn r = 0 → P (stg g st kd t w dd m i r)
  | 0, _, _, _, hP, _ => hP
  | m + 1, i, r, h, hP, hr => by
    unfold stg
    split
    · rename_i hs
      have h1 := h i r (Nat.le_refl _) (by omega) hP hr hs
      split
      · rename_i h2
        exact stg_ind P m (i + 1) _ (fun j r a b => h j r (by omega) (by omega)) h1 h2
      · exact h1
    · exact stg_ind P m (i + 1) r (fun j r a b => h j r (by omega) (by omega)) hP hr
theorem que_rsn {g : CF} {kd t w ky : Nat} {ch : List Nat} : ∀ (m i : Nat) (r : RS), rsn (que g kd t w ky ch m i r) = rsn r
  | 0, _, _ => rfl
  | m + 1, i, r => by
    unfold que
    rw [que_rsn m (i + 1) _]
    split <;> rfl
theorem que_wf {g : CF} {kd t w ky : Nat} {ch : List Nat} {k q : Nat} (ht : t < 4) (hk : ky < 100) (hc : ch.length ≤ cD g) (hx : ∀ x ∈ ch, x < 12) : ∀ (m i : Nat) (r : RS), i + m ≤ (cR g).1 → (rsW r).1 + m + 12 * q ≤ 12 * (rsJ r).1 → wfX g k q r → wfX g k q (que g kd t w ky ch m i r)
  | 0, _, _, _, _, h => h
  | m + 1, i, r, hi, hw, h => by
    unfold que
    have h2 := h
    obtain ⟨a1, a2, a3, a4, a5, a6, a7⟩ := h2
    split
    · refine que_wf ht hk hc hx m (i + 1) _ (by omega) ?_ ⟨a1, a2, a3, a4, ?_, fun j hj => ?_, a7⟩
      · show (rsW r).1 + 1 + m + 12 * q ≤ 12 * (rsJ r).1
        omega
      · show (rsW r).1 + 1 + 12 * q ≤ 12 * (rsJ r).1
        omega
      · have hj2 : j < (rsW r).1 + 1 := hj
        show wfW g (if j = (rsW r).1 then (i, t, ky, ch) else (rsW r).2 j)
        by_cases e : j = (rsW r).1
        · rw [if_pos e]
          exact ⟨by show i < _; omega, ht, hk, hc, hx⟩
        · rw [if_neg e]
          exact a6 j (by omega)
    · exact que_wf ht hk hc hx m (i + 1) r (by omega) (by omega) h
theorem deed_wf {g : CF} {run : Nat → Nat → Nat → Nat → List Nat → RS → RS} {t ky : Nat} {ch : List Nat} {k q i : Nat} {r : RS} (hg : wfC g) (hr : ∀ kd t ky nm, kd < 3 → t < 4 → ky < 100 → nm < 1000 → wfX g k q (run kd t ky nm (ch ++ [i]) r)) (hX : wfX g k q r) (hi : i < (cR g).1) (ht : t < 4) (hk : ky < 100) (hc : ch.length ≤ cD g) (hx : ∀ x ∈ ch, x < 12) : wfX g k q (deedS g run t ky ch i r) := by
  have hw := hg.2.2.2 i hi
  have hn := hg.2.2.1
  have hxi : ∀ x ∈ ch ++ [i], x < 12 := by
    intro x h
    rcases List.mem_append.mp h with h | h
    · exact hx x h
    · rw [List.mem_singleton.mp h]; omega
  unfold deedS
  split
  · exact wfX_fail hX (by decide) (by decide) ht hk (by rw [List.length_append]; have := hg.1; simp; omega) hxi
  · exact hr _ _ _ _ (by omega) hw.2.2.2.2.2.1 (Nat.mod_lt _ (by decide)) hw.2.2.2.2.2.2.2
/-- a table is as it was -/
def sameT (τ τ2 : TB) (t : Nat) : Prop := τ2.1 t = τ.1 t ∧ τ2.2.1 t = τ.2.1 t ∧ τ2.2.2 t = τ.2.2 t
theorem sameT.rfl' {τ : TB} {t : Nat} : sameT τ τ t := ⟨rfl, rfl, rfl⟩
theorem sameT.trans {τ τ2 τ3 : TB} {t : Nat} (h : sameT τ τ2 t) (h2 : sameT τ2 τ3 t) : sameT τ τ3 t := ⟨h2.1.trans h.1, h2.2.1.trans h.2.1, h2.2.2.trans h.2.2⟩
theorem wgt_same {τ τ2 : TB} {t : Nat} (h : sameT τ τ2 t) (kd ky nm : Nat) : wgt τ2 kd t ky nm = wgt τ kd t ky nm := by
  obtain ⟨h1, h2, h3⟩ := h
  have e1 : zT τ2 t = zT τ t := h1
  have e2 : kT τ2 t = kT τ t := h2
  have e3 : nT τ2 t = nT τ t := h3
  unfold wgt plT
  rw [e1, e2, e3]
theorem sameT_app {τ : TB} {kd u ky w t : Nat} (h : ¬ t = u) : sameT τ (appT τ kd u ky w) t := by
  unfold appT
  split
  · refine ⟨?_, ?_, ?_⟩ <;> simp [layT, h]
  · split
    · refine ⟨rfl, rfl, ?_⟩
      funext j
      simp [setT, h]
    · refine ⟨?_, ?_, ?_⟩ <;> simp [drpT, h]
theorem que_T {g : CF} {kd t w ky : Nat} {ch : List Nat} : ∀ (m i : Nat) (r : RS), rsT (que g kd t w ky ch m i r) = rsT r
  | 0, _, _ => rfl
  | m + 1, i, r => by
    unfold que
    rw [que_T m (i + 1) _]
    split <;> rfl
theorem car_same {g : CF} {t0 : Nat} : ∀ (f mo kd t ky nm : Nat) (ch : List Nat) (r : RS), mo.testBit t0 = true → rsn r = 0 → sameT (rsT r) (rsT (car g f mo kd t ky nm ch r)) t0
  | 0, _, _, _, _, _, _, _, _, _ => sameT.rfl'
  | f + 1, mo, kd, t, ky, nm, ch, r, hm, hr => by
    unfold car
    split
    · exact sameT.rfl'
    · split
      · exact sameT.rfl'
      · split
        · exact sameT.rfl'
        · rename_i hmt
          have hne : ¬ t0 = t := fun e => hmt (e ▸ hm)
          split
          · split <;> exact sameT.rfl'
          · rename_i w hw
            have hm2 : (mo ||| 2 ^ t).testBit t0 = true := by rw [Nat.testBit_or, hm]; rfl
            have dk : ∀ (j : Nat) (r0 r : RS), sameT (rsT r0) (rsT r) t0 → rsn r = 0 → sameT (rsT r0) (rsT (deedS g (car g f (mo ||| 2 ^ t)) t ky ch j r)) t0 := by
              intro j r0 r h hr
              unfold deedS
              split
              · exact h
              · exact h.trans (car_same f _ _ _ _ _ _ r hm2 hr)
            have s1 : sameT (rsT r) (rsT (stg g 0 kd t w (deedS g (car g f (mo ||| 2 ^ t)) t ky ch) (cR g).1 0 (begS r ch.length))) t0 := stg_ind (fun z => sameT (rsT r) (rsT z) t0) _ _ _ (fun j z a b p y _ => dk j r z p y) sameT.rfl' hr
            dsimp only
            split
            · rename_i h3
              have s2 : sameT (rsT r) (rsT (doneS (stg g 0 kd t w (deedS g (car g f (mo ||| 2 ^ t)) t ky ch) (cR g).1 0 (begS r ch.length)) kd t ky w ch)) t0 := s1.trans (sameT_app hne)
              have s3 := stg_ind (g := g) (st := 1) (kd := kd) (t := t) (w := w) (fun z => sameT (rsT r) (rsT z) t0) (cR g).1 0 _ (fun j z a b p y _ => dk j r z p y) s2 h3
              split
              · rw [que_T]; exact s3
              · exact s3
            · exact s1
/-- a statement that is possible still is so behind the deeds ahead of it -/
theorem stg_wgt {g : CF} {f mo kd t ky w st : Nat} {ch : List Nat} {r : RS} (hr : rsn r = 0) (m i : Nat) : sameT (rsT r) (rsT (stg g st kd t w (deedS g (car g f (mo ||| 2 ^ t)) t ky ch) m i r)) t := by
  have hm2 : (mo ||| 2 ^ t).testBit t = true := by rw [Nat.testBit_or, Nat.testBit_two_pow_self]; simp
  refine stg_ind (fun z => sameT (rsT r) (rsT z) t) m i r (fun j z a b p y _ => ?_) sameT.rfl' hr
  unfold deedS
  split
  · exact p
  · exact p.trans (car_same f _ _ _ _ _ _ z hm2 y)
theorem car_wf {g : CF} (hg : wfC g) : ∀ (f mo kd t ky nm : Nat) (ch : List Nat) (r : RS) (k q : Nat), wfX g k q r → rsn r = 0 → t < 4 → ky < 100 → nm < 1000 → ch.length ≤ cD g + 1 → (∀ x ∈ ch, x < 12) → wfX g k q (car g f mo kd t ky nm ch r)
  | 0, _, _, _, _, _, _, _, _, _, hX, _, _, _, _, _, _ => hX
  | f + 1, mo, kd, t, ky, nm, ch, r, k, q, hX, hr, ht, hk, hn, hc, hx => by
    have hd := hg.1
    unfold car
    split
    · exact wfX_fail hX (by decide) (by decide) ht hk (by omega) hx
    · rename_i h1
      split
      · exact wfX_fail hX (by decide) (by decide) ht hk (by omega) hx
      · rename_i h2
        have hB := wfX_beg (d := ch.length) hX (by omega) (by omega)
        split
        · exact wfX_fail (wfX_less hB) (by decide) (by decide) ht hk (by omega) hx
        · split
          · split
            · exact wfX_lft hB
            · exact wfX_fail (wfX_less hB) (by decide) (by decide) ht hk (by omega) hx
          · rename_i w hw
            have dk : ∀ (k q j : Nat) (r : RS), j < (cR g).1 → wfX g k q r → rsn r = 0 → wfX g k q (deedS g (car g f (mo ||| 2 ^ t)) t ky ch j r) := by
              intro k q j r hj hX hr
              refine deed_wf hg (fun kd2 t2 ky2 nm2 b1 b2 b3 b4 => car_wf hg f _ kd2 t2 ky2 nm2 _ r k q hX hr b2 b3 b4 ?_ ?_) hX hj ht hk (by omega) hx
              · rw [List.length_append]; simp; omega
              · intro x h
                have hn12 := hg.2.2.1
                rcases List.mem_append.mp h with h | h
                · exact hx x h
                · rw [List.mem_singleton.mp h]; omega
            have s1 : wfX g (k + 1) q (stg g 0 kd t w (deedS g (car g f (mo ||| 2 ^ t)) t ky ch) (cR g).1 0 (begS r ch.length)) := stg_ind (wfX g (k + 1) q) _ _ _ (fun j r a b p z _ => dk _ _ j r (by omega) p z) hB hr
            dsimp only
            split
            · rename_i h3
              have hw2 : wgt (rsT (stg g 0 kd t w (deedS g (car g f (mo ||| 2 ^ t)) t ky ch) (cR g).1 0 (begS r ch.length))) kd t ky nm = some w := by
                rw [wgt_same (stg_wgt (r := begS r ch.length) hr _ _)]
                exact hw
              have s2 := wfX_done (ch := ch) s1 ht hk hn hw2
              have s3 := stg_ind (g := g) (st := 1) (kd := kd) (t := t) (w := w) (wfX g k (q + 1)) (cR g).1 0 _ (fun j r a b p z _ => dk k (q + 1) j r (by omega) p z) s2 h3
              split
              · refine que_wf ht hk (by omega) hx _ _ _ (by omega) ?_ (wfX_lessq s3)
                have h5 := s3.2.2.2.2.1
                have hn12 := hg.2.2.1
                omega
              · exact wfX_lessq s3
            · exact wfX_less s1
theorem wtS_wf {g : CF} (hg : wfC g) : ∀ (m k : Nat) (r : RS), wfX g 0 0 r → wfX g 0 0 (wtS g m k r)
  | 0, _, _, h => h
  | m + 1, k, r, h => by
    unfold wtS
    split
    · rename_i hk
      have hw := h.2.2.2.2.2.1 k hk.2
      refine wtS_wf hg m (k + 1) _ (deed_wf hg (fun kd t ky nm _ b2 b3 b4 => car_wf hg 10 0 kd t ky nm _ r 0 0 h hk.1 b2 b3 b4 ?_ ?_) h hw.1 hw.2.1 hw.2.2.1 hw.2.2.2.1 hw.2.2.2.2)
      · rw [List.length_append]
        have := hw.2.2.2.1
        simp
        omega
      · intro x hx
        have hn12 := hg.2.2.1
        have h1 := hw.1
        rcases List.mem_append.mp hx with hx | hx
        · exact hw.2.2.2.2 x hx
        · rw [List.mem_singleton.mp hx]; omega
    · exact h
theorem wfX_r0 {g : CF} {τ : TB} (h : wfT τ) : wfX g 0 0 (r0S τ) := ⟨h, Nat.le_refl _, Nat.zero_le _, Nat.zero_le _, Nat.le_refl _, fun i hi => absurd hi (Nat.not_lt_zero _), fun _ => rfl, (by decide : 0 < 6), (by decide : 0 < 4), (by decide : 0 < 100), Nat.zero_le _, fun x hx => absurd hx List.not_mem_nil⟩
theorem runS_wf {g : CF} (hg : wfC g) {kd t ky nm : Nat} {τ : TB} (h : wfT τ) (ht : t < 4) (hk : ky < 100) (hn : nm < 1000) : wfX g 0 0 (runS g kd t ky nm τ) :=
  wtS_wf hg _ _ _ (car_wf hg 10 0 kd t ky nm [] _ 0 0 (wfX_r0 h) rfl ht hk hn (Nat.zero_le _) (fun x hx => absurd hx List.not_mem_nil))
