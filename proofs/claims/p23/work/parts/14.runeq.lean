/-! PURE: the course of a statement, case by case; what the class's course keeps -/
section CAR
variable {g : CF} {f mo kd t ky nm : Nat} {ch : List Nat} {r : RS}
theorem car_1 (h : cD g < ch.length) : failS r 1 t ky ch = car g (f + 1) mo kd t ky nm ch r := by
  show _ = (if cD g < ch.length then _ else _)
  rw [if_pos h]
theorem car_2 (h : ¬ cD g < ch.length) (h2 : 100 ≤ rsB r) : failS r 2 t ky ch = car g (f + 1) mo kd t ky nm ch r := by
  show _ = (if cD g < ch.length then _ else _)
  rw [if_neg h, if_pos h2]
theorem car_3 (h : ¬ cD g < ch.length) (h2 : ¬ 100 ≤ rsB r) (h3 : mo.testBit t = true) : failS (begS r ch.length) 3 t ky ch = car g (f + 1) mo kd t ky nm ch r := by
  show _ = (if cD g < ch.length then _ else _)
  rw [if_neg h, if_neg h2, if_pos h3]
theorem car_4 (h : ¬ cD g < ch.length) (h2 : ¬ 100 ≤ rsB r) (h3 : ¬ mo.testBit t = true) (hw : wgt (rsT r) kd t ky nm = none) (hl : ch ≠ [] ∧ cL g = 1) : lftS (begS r ch.length) = car g (f + 1) mo kd t ky nm ch r := by
  show _ = (if cD g < ch.length then _ else _)
  rw [if_neg h, if_neg h2, if_neg h3, hw]
  show _ = (if ch ≠ [] ∧ cL g = 1 then _ else _)
  rw [if_pos hl]
theorem car_5 (h : ¬ cD g < ch.length) (h2 : ¬ 100 ≤ rsB r) (h3 : ¬ mo.testBit t = true) (hw : wgt (rsT r) kd t ky nm = none) (hl : ¬ (ch ≠ [] ∧ cL g = 1)) : failS (begS r ch.length) 4 t ky ch = car g (f + 1) mo kd t ky nm ch r := by
  show _ = (if cD g < ch.length then _ else _)
  rw [if_neg h, if_neg h2, if_neg h3, hw]
  show _ = (if ch ≠ [] ∧ cL g = 1 then _ else _)
  rw [if_neg hl]
theorem car_6 {w : Nat} {r2 : RS} (h : ¬ cD g < ch.length) (h2 : ¬ 100 ≤ rsB r) (h3 : ¬ mo.testBit t = true) (hw : wgt (rsT r) kd t ky nm = some w) (e2 : r2 = stg g 0 kd t w (deedS g (car g f (mo ||| 2 ^ t)) t ky ch) (cR g).1 0 (begS r ch.length)) (hn : ¬ rsn r2 = 0) : r2 = car g (f + 1) mo kd t ky nm ch r := by
  show _ = (if cD g < ch.length then _ else _)
  rw [if_neg h, if_neg h2, if_neg h3, hw]
  dsimp only
  rw [← e2, if_neg hn]
theorem car_7 {w : Nat} {r2 r4 : RS} (h : ¬ cD g < ch.length) (h2 : ¬ 100 ≤ rsB r) (h3 : ¬ mo.testBit t = true) (hw : wgt (rsT r) kd t ky nm = some w) (e2 : r2 = stg g 0 kd t w (deedS g (car g f (mo ||| 2 ^ t)) t ky ch) (cR g).1 0 (begS r ch.length)) (hn : rsn r2 = 0) (e4 : r4 = stg g 1 kd t w (deedS g (car g f (mo ||| 2 ^ t)) t ky ch) (cR g).1 0 (doneS r2 kd t ky w ch)) (hn4 : ¬ rsn r4 = 0) : r4 = car g (f + 1) mo kd t ky nm ch r := by
  show _ = (if cD g < ch.length then _ else _)
  rw [if_neg h, if_neg h2, if_neg h3, hw]
  dsimp only
  rw [← e2, if_pos hn, ← e4, if_neg hn4]
theorem car_8 {w : Nat} {r2 r4 : RS} (h : ¬ cD g < ch.length) (h2 : ¬ 100 ≤ rsB r) (h3 : ¬ mo.testBit t = true) (hw : wgt (rsT r) kd t ky nm = some w) (e2 : r2 = stg g 0 kd t w (deedS g (car g f (mo ||| 2 ^ t)) t ky ch) (cR g).1 0 (begS r ch.length)) (hn : rsn r2 = 0) (e4 : r4 = stg g 1 kd t w (deedS g (car g f (mo ||| 2 ^ t)) t ky ch) (cR g).1 0 (doneS r2 kd t ky w ch)) (hn4 : rsn r4 = 0) : que g kd t w ky ch (cR g).1 0 r4 = car g (f + 1) mo kd t ky nm ch r := by
  show _ = (if cD g < ch.length then _ else _)
  rw [if_neg h, if_neg h2, if_neg h3, hw]
  dsimp only
  rw [← e2, if_pos hn, ← e4, if_pos hn4]
/-- what holds of the courses in between -/
theorem car_wf1 {k q w st : Nat} (hg : wfC g) (hX : wfX g k q r) (hr : rsn r = 0) (ht : t < 4) (hk : ky < 100) (hc : ch.length ≤ cD g) (hx : ∀ x ∈ ch, x < 12) : wfX g k q (stg g st kd t w (deedS g (car g f mo) t ky ch) (cR g).1 0 r) := by
  have hn12 := hg.2.2.1
  refine stg_ind (wfX g k q) _ _ _ (fun j z a b p y _ => deed_wf hg (fun kd2 t2 ky2 nm2 b1 b2 b3 b4 => car_wf hg f _ kd2 t2 ky2 nm2 _ z k q p y b2 b3 b4 ?_ ?_) p (by omega) ht hk hc hx) hX hr
  · rw [List.length_append]; simp; omega
  · intro x h
    rcases List.mem_append.mp h with h | h
    · exact hx x h
    · rw [List.mem_singleton.mp h]; omega
end CAR
theorem stg_off {g : CF} {st kd t w m i : Nat} {dd : Nat → RS → RS} {r : RS} (h : ¬ soff g i st kd t w) : stg g st kd t w dd (m + 1) i r = stg g st kd t w dd m (i + 1) r := by
  show (@ite _ (soff g i st kd t w) (Classical.propDecidable _) _ _) = _
  rw [if_neg h]
theorem stg_on {g : CF} {st kd t w m i : Nat} {dd : Nat → RS → RS} {r : RS} (h : soff g i st kd t w) (h2 : rsn (dd i r) = 0) : stg g st kd t w dd (m + 1) i r = stg g st kd t w dd m (i + 1) (dd i r) := by
  show (@ite _ (soff g i st kd t w) (Classical.propDecidable _) _ _) = _
  rw [if_pos h, if_pos h2]
theorem stg_on2 {g : CF} {st kd t w m i : Nat} {dd : Nat → RS → RS} {r : RS} (h : soff g i st kd t w) (h2 : ¬ rsn (dd i r) = 0) : stg g st kd t w dd (m + 1) i r = dd i r := by
  show (@ite _ (soff g i st kd t w) (Classical.propDecidable _) _ _) = _
  rw [if_pos h, if_neg h2]
theorem que_off {g : CF} {kd t w ky m i : Nat} {ch : List Nat} {r : RS} (h : ¬ soff g i 2 kd t w) : que g kd t w ky ch (m + 1) i r = que g kd t w ky ch m (i + 1) r := by
  show que g kd t w ky ch m (i + 1) (@ite _ (soff g i 2 kd t w) (Classical.propDecidable _) _ _) = _
  rw [if_neg h]
theorem que_on {g : CF} {kd t w ky m i : Nat} {ch : List Nat} {r : RS} (h : soff g i 2 kd t w) : que g kd t w ky ch (m + 1) i r = que g kd t w ky ch m (i + 1) (waitS r i t ky ch) := by
  show que g kd t w ky ch m (i + 1) (@ite _ (soff g i 2 kd t w) (Classical.propDecidable _) _ _) = _
  rw [if_pos h]
theorem que_rB {g : CF} {kd t w ky : Nat} {ch : List Nat} : ∀ (m i : Nat) (r : RS), rsB (que g kd t w ky ch m i r) = rsB r
  | 0, _, _ => rfl
  | m + 1, i, r => by
    unfold que
    rw [que_rB m (i + 1) _]
    split <;> rfl
/-- a course that fails, that begins, that leaves out, that waits: the class's picture -/
theorem rC_fail {r : RS} {B : Nat → BI} {fs fk fn fj fb fc fc2 fw : Nat → Int32} {why t ky : Nat} {ch : List Nat} (h : rC r B fs fk fn fj fb fc fw) (hf : rCh fc2 ch) : rC (failS r why t ky ch) B fs fk fn fj fb fc2 fw := ⟨h.1, h.2.1, h.2.2.1, h.2.2.2.1, h.2.2.2.2.1, hf⟩
theorem rC_beg {r : RS} {B : Nat → BI} {fs fk fn fj fb fb2 fc fw : Nat → Int32} {kd t ky : Nat} {wI : Int32} {ch : List Nat} (h : rC r B fs fk fn fj fb fc fw) (hb : rB fb2 (rsB r + 1) (fun i => if i = rsB r then (kd, t, ky, wI, ch) else B i)) : rC (begS r ch.length) (fun i => if i = rsB r then (kd, t, ky, wI, ch) else B i) fs fk fn fj fb2 fc fw := by
  have hB : ∀ i, i < rsB r → (fun i => if i = rsB r then ((kd, t, ky, wI, ch) : BI) else B i) i = B i := fun i hi => if_neg (by omega)
  refine ⟨h.1, h.2.1, hb, ?_, rW_more h.2.2.2.2.1 (by show rsB r ≤ rsB r + 1; omega) hB, h.2.2.2.2.2⟩
  show max (rsP r) ch.length = max (mxd _ (rsB r)) _
  rw [mxd_same _ hB, h.2.2.2.1]
  simp
theorem rC_lft {r : RS} {B : Nat → BI} {fs fk fn fj fb fc fw : Nat → Int32} (h : rC r B fs fk fn fj fb fc fw) : rC (lftS r) B fs fk fn fj fb fc fw := h
theorem rC_done {r : RS} {B : Nat → BI} {fs fk fn fj fb fc fw fs2 fk2 fn2 fj2 : Nat → Int32} {kd t ky w : Nat} {ch : List Nat} (h : rC r B fs fk fn fj fb fc fw) (h1 : rT fs2 fk2 fn2 (appT (rsT r) kd t ky w)) (h2 : rJ fj2 ((rsJ r).1 + 1, fun i => if i = (rsJ r).1 then jrow kd t ky w ch else (rsJ r).2 i)) : rC (doneS r kd t ky w ch) B fs2 fk2 fn2 fj2 fb fc fw := ⟨h1, h2, h.2.2.1, h.2.2.2.1, h.2.2.2.2.1, h.2.2.2.2.2⟩
theorem rC_wait {r : RS} {B : Nat → BI} {fs fk fn fj fb fc fw : Nat → Int32} {i t ky s : Nat} {ch : List Nat} (h : rC r B fs fk fn fj fb fc fw) (hs : s < rsB r) (h4 : bT (B s) = t) (h5 : bY (B s) = ky) (h6 : bC' (B s) = ch) : rC (waitS r i t ky ch) B fs fk fn fj fb fc (upd (upd fw ((rsW r).1 * 2 + 0) (nI i)) ((rsW r).1 * 2 + 1) (nI s)) := ⟨h.1, h.2.1, h.2.2.1, h.2.2.2.1, rW_add h.2.2.2.2.1 hs h4 h5 h6, h.2.2.2.2.2⟩
def setW (r : RS) (W : Nat × (Nat → WT)) : RS := (rsT r, rsJ r, rsB r, rsP r, rsL r, W, rsF r)
theorem deed_wf1 {g : CF} {f mo t ky i k q : Nat} {ch : List Nat} {r : RS} (hg : wfC g) (hX : wfX g k q r) (hr : rsn r = 0) (hi : i < (cR g).1) (ht : t < 4) (hk : ky < 100) (hc : ch.length ≤ cD g) (hx : ∀ x ∈ ch, x < 12) : wfX g k q (deedS g (car g f mo) t ky ch i r) := by
  have hn12 := hg.2.2.1
  refine deed_wf hg (fun kd2 t2 ky2 nm2 b1 b2 b3 b4 => car_wf hg f _ kd2 t2 ky2 nm2 _ r k q hX hr b2 b3 b4 ?_ ?_) hX hi ht hk hc hx
  · rw [List.length_append]; simp; omega
  · intro x h
    rcases List.mem_append.mp h with h | h
    · exact hx x h
    · rw [List.mem_singleton.mp h]; omega
theorem x_app {ch : List Nat} {i : Nat} (hx : ∀ x ∈ ch, x < 12) (hi : i < 12) : ∀ x ∈ ch ++ [i], x < 12 := by
  intro x h
  rcases List.mem_append.mp h with h | h
  · exact hx x h
  · rw [List.mem_singleton.mp h]; exact hi
theorem len_app {ch : List Nat} {i : Nat} : (ch ++ [i]).length = ch.length + 1 := by simp
theorem wt_end {g : CF} {k : Nat} {r : RS} (h : ¬ (rsn r = 0 ∧ k < (rsW r).1)) : ∀ m, wtS g m k r = r
  | 0 => rfl
  | m + 1 => by
    show (if rsn r = 0 ∧ k < (rsW r).1 then _ else _) = _
    rw [if_neg h]
theorem wt_go {g : CF} {k m : Nat} {r : RS} (h : rsn r = 0 ∧ k < (rsW r).1) : wtS g (m + 1) k r = wtS g m (k + 1) (deedS g (car g 10 0) ((rsW r).2 k).2.1 ((rsW r).2 k).2.2.1 ((rsW r).2 k).2.2.2 ((rsW r).2 k).1 r) := by
  show (if rsn r = 0 ∧ k < (rsW r).1 then _ else _) = _
  rw [if_pos h]
theorem rC_r0 {τ : TB} {fs fk fn fj fb fc fw : Nat → Int32} (h : rT fs fk fn τ) : rC (r0S τ) (fun _ => (0, 0, 0, 0, [])) fs fk fn fj fb fc fw := ⟨h, rJ_no, fun i hi => absurd hi (Nat.not_lt_zero _), rfl, fun i hi => absurd hi (Nat.not_lt_zero _), fun k hk => absurd hk (Nat.not_lt_zero _)⟩
/-- a deed that goes through has begun a statement -/
theorem deed_le {g : CF} {run : Nat → Nat → Nat → Nat → List Nat → RS → RS} {t ky i : Nat} {ch : List Nat} {r : RS} (h : ∀ kd t ky nm ch, rsB r ≤ rsB (run kd t ky nm ch r)) : rsB r ≤ rsB (deedS g run t ky ch i r) := by
  unfold deedS
  split
  · exact Nat.le_refl _
  · exact h _ _ _ _ _
theorem car_two {g : CF} {f mo kd t ky nm : Nat} {ch : List Nat} {r : RS} (hr : rsn r = 0) (hf : ∀ mo kd t ky nm ch r, rsn r = 0 → rsB r ≤ rsB (car g f mo kd t ky nm ch r)) : rsB r + 1 ≤ rsB (car g (f + 1) mo kd t ky nm ch r) ∨ (¬ rsn (car g (f + 1) mo kd t ky nm ch r) = 0 ∧ rsB r = rsB (car g (f + 1) mo kd t ky nm ch r)) := by
  unfold car
  split
  · exact Or.inr ⟨fun (e : 1 = 0) => absurd e (by decide), rfl⟩
  · split
    · exact Or.inr ⟨fun (e : 2 = 0) => absurd e (by decide), rfl⟩
    · split
      · exact Or.inl (Nat.le_refl _)
      · split
        · split <;> exact Or.inl (Nat.le_refl _)
        · rename_i w hw
          refine Or.inl ?_
          have dk : ∀ (j : Nat) (z : RS), rsn z = 0 → rsB z ≤ rsB (deedS g (car g f (mo ||| 2 ^ t)) t ky ch j z) := fun j z hz => deed_le (fun _ _ _ _ _ => hf _ _ _ _ _ _ z hz)
          have s1 : rsB r + 1 ≤ rsB (stg g 0 kd t w (deedS g (car g f (mo ||| 2 ^ t)) t ky ch) (cR g).1 0 (begS r ch.length)) := stg_ind (fun z => rsB r + 1 ≤ rsB z) _ _ _ (fun j z a b p y _ => Nat.le_trans p (dk j z y)) (Nat.le_refl _) hr
          dsimp only
          split
          · rename_i h3
            have s2 : rsB r + 1 ≤ rsB (doneS (stg g 0 kd t w (deedS g (car g f (mo ||| 2 ^ t)) t ky ch) (cR g).1 0 (begS r ch.length)) kd t ky w ch) := s1
            have s3 := stg_ind (g := g) (st := 1) (kd := kd) (t := t) (w := w) (fun z => rsB r + 1 ≤ rsB z) (cR g).1 0 _ (fun j z a b p y _ => Nat.le_trans p (dk j z y)) s2 h3
            split
            · rw [que_rB]; exact s3
            · exact s3
          · exact s1
theorem car_le {g : CF} : ∀ (f mo kd t ky nm : Nat) (ch : List Nat) (r : RS), rsn r = 0 → rsB r ≤ rsB (car g f mo kd t ky nm ch r)
  | 0, _, _, _, _, _, _, _, _ => Nat.le_refl _
  | f + 1, _, _, _, _, _, _, _, hr => by
    rcases car_two (f := f) hr (fun mo kd t ky nm ch r hr => car_le f mo kd t ky nm ch r hr) with h | h
    · exact Nat.le_of_succ_le h
    · exact Nat.le_of_eq h.2
theorem car_rB {g : CF} {f mo kd t ky nm : Nat} {ch : List Nat} {r : RS} (hr : rsn r = 0) (h : rsn (car g (f + 1) mo kd t ky nm ch r) = 0) : rsB r + 1 ≤ rsB (car g (f + 1) mo kd t ky nm ch r) := by
  rcases car_two (f := f) (mo := mo) (kd := kd) (t := t) (ky := ky) (nm := nm) (ch := ch) hr (car_le f) with h2 | h2
  · exact h2
  · exact absurd h h2.1
theorem deed_rB {g : CF} {f mo t ky i : Nat} {ch : List Nat} {r : RS} (hr : rsn r = 0) (h : rsn (deedS g (car g (f + 1) mo) t ky ch i r) = 0) : rsB r + 1 ≤ rsB (deedS g (car g (f + 1) mo) t ky ch i r) := by
  unfold deedS at h ⊢
  split
  · rename_i h2
    rw [if_pos h2] at h
    exact absurd (show (5 : Nat) = 0 from h) (by decide)
  · rename_i h2
    rw [if_neg h2] at h
    exact car_rB hr h
