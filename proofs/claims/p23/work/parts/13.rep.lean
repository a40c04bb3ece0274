/-! PURE: a course as the class holds it -/
/-- a statement that was begun: kind, table, key, weight (-1: not possible), chain -/
abbrev BI : Type := Nat × Nat × Nat × Int32 × List Nat
abbrev bK (b : BI) : Nat := b.1
abbrev bT (b : BI) : Nat := b.2.1
abbrev bY (b : BI) : Nat := b.2.2.1
abbrev bW (b : BI) : Int32 := b.2.2.2.1
abbrev bC' (b : BI) : List Nat := b.2.2.2.2
/-- where a chain comes from: from outside, or the chain of a statement that was begun, with a trigger at its end -/
def lnk (cs mk : Int32) (ch : List Nat) (bn : Nat) (B : Nat → BI) : Prop := (ch = [] ∧ cs = -1 ∧ mk = -6) ∨ ∃ j, j < bn ∧ cs = nI j ∧ ∃ m, m < 12 ∧ mk = nI m ∧ ch = bC' (B j) ++ [m]
def rB (fb : Nat → Int32) (bn : Nat) (B : Nat → BI) : Prop := ∀ i, i < bn → (bK (B i) < 3 ∧ bT (B i) < 4 ∧ bY (B i) < 100 ∧ (bC' (B i)).length ≤ 8 ∧ ∀ x ∈ bC' (B i), x < 12) ∧ fb (i * 7 + 0) = nI (bK (B i)) ∧ fb (i * 7 + 1) = nI (bT (B i)) ∧ fb (i * 7 + 2) = nI (bY (B i)) ∧ fb (i * 7 + 3) = bW (B i) ∧ fb (i * 7 + 4) = nI (bC' (B i)).length ∧ fb (i * 7 + 5) = mkr (bC' (B i)) ∧ lnk (fb (i * 7 + 6)) (fb (i * 7 + 5)) (bC' (B i)) i B
def mxd (B : Nat → BI) : Nat → Nat
  | 0 => 0
  | n + 1 => max (mxd B n) (bC' (B n)).length
theorem mxd_le {fb : Nat → Int32} {B : Nat → BI} {bn : Nat} (h : rB fb bn B) : ∀ n, n ≤ bn → mxd B n ≤ 8
  | 0, _ => Nat.zero_le _
  | n + 1, hn => by
    unfold mxd
    have h1 := mxd_le h n (by omega)
    have h2 := (h n (by omega)).1.2.2.2.1
    omega
theorem mxd_same {B B2 : Nat → BI} : ∀ n, (∀ i, i < n → B2 i = B i) → mxd B2 n = mxd B n
  | 0, _ => rfl
  | n + 1, h => by
    unfold mxd
    rw [mxd_same n (fun i hi => h i (by omega)), h n (by omega)]
theorem lnk_more {cs mk : Int32} {ch : List Nat} {bn bm : Nat} {B B2 : Nat → BI} (h : lnk cs mk ch bn B) (hn : bn ≤ bm) (hB : ∀ i, i < bn → B2 i = B i) : lnk cs mk ch bm B2 := by
  rcases h with h | ⟨j, hj, e, m, hm, e2, e3⟩
  · exact Or.inl h
  · exact Or.inr ⟨j, by omega, e, m, hm, e2, by rw [hB j hj]; exact e3⟩
theorem lnk_mk {cs mk : Int32} {ch : List Nat} {bn : Nat} {B : Nat → BI} (h : lnk cs mk ch bn B) : mk = mkr ch := by
  rcases h with ⟨rfl, -, h⟩ | ⟨j, -, -, m, -, h, rfl⟩
  · rw [h]; rfl
  · rw [h, mkr_app]
/-- the statement that comes next -/
theorem rB_new {fb : Nat → Int32} {bn : Nat} {B : Nat → BI} {kd t ky : Nat} {wI cs mk : Int32} {ch : List Nat} (h : rB fb bn B) (hk : kd < 3) (ht : t < 4) (hy : ky < 100) (hc : ch.length ≤ 8) (hx : ∀ x ∈ ch, x < 12) (hl : lnk cs mk ch bn B) :
    rB (upd (upd (upd (upd (upd (upd (upd fb (bn * 7 + 0) (nI kd)) (bn * 7 + 1) (nI t)) (bn * 7 + 2) (nI ky)) (bn * 7 + 3) wI) (bn * 7 + 4) (nI ch.length)) (bn * 7 + 5) mk) (bn * 7 + 6) cs) (bn + 1) (fun i => if i = bn then (kd, t, ky, wI, ch) else B i) := by
  have hB : ∀ i, i < bn → (fun i => if i = bn then ((kd, t, ky, wI, ch) : BI) else B i) i = B i := fun i hi => if_neg (by omega)
  intro i hi
  by_cases e : i = bn
  · subst e
    simp only [if_true]
    refine ⟨⟨hk, ht, hy, hc, hx⟩, ?_, ?_, ?_, ?_, ?_, ?_, ?_⟩
    · rw [upd_n (by omega), upd_n (by omega), upd_n (by omega), upd_n (by omega), upd_n (by omega), upd_n (by omega), upd_e rfl]
    · rw [upd_n (by omega), upd_n (by omega), upd_n (by omega), upd_n (by omega), upd_n (by omega), upd_e rfl]
    · rw [upd_n (by omega), upd_n (by omega), upd_n (by omega), upd_n (by omega), upd_e rfl]
    · rw [upd_n (by omega), upd_n (by omega), upd_n (by omega), upd_e rfl]
    · rw [upd_n (by omega), upd_n (by omega), upd_e rfl]
    · rw [upd_n (by omega), upd_e rfl]
      exact lnk_mk hl
    · rw [upd_e rfl, upd_n (by omega), upd_e rfl]
      exact lnk_more hl (Nat.le_refl _) hB
  · have h1 := h i (by omega)
    rw [hB i (by omega)]
    have u : ∀ c, c < 7 → ∀ (a : Nat → Int32), (upd (upd (upd (upd (upd (upd (upd a (bn * 7 + 0) (nI kd)) (bn * 7 + 1) (nI t)) (bn * 7 + 2) (nI ky)) (bn * 7 + 3) wI) (bn * 7 + 4) (nI ch.length)) (bn * 7 + 5) mk) (bn * 7 + 6) cs) (i * 7 + c) = a (i * 7 + c) := by
      intro c hc a
      rw [upd_n (by omega), upd_n (by omega), upd_n (by omega), upd_n (by omega), upd_n (by omega), upd_n (by omega), upd_n (by omega)]
    rw [u 0 (by decide), u 1 (by decide), u 2 (by decide), u 3 (by decide), u 4 (by decide), u 5 (by decide), u 6 (by decide)]
    refine ⟨h1.1, h1.2.1, h1.2.2.1, h1.2.2.2.1, h1.2.2.2.2.1, h1.2.2.2.2.2.1, h1.2.2.2.2.2.2.1, lnk_more h1.2.2.2.2.2.2.2 (Nat.le_refl _) (fun j hj => hB j (by omega))⟩
def rJ (f : Nat → Int32) (j : JR) : Prop := ∀ i, i < j.1 → ∀ c, c < 6 → f (i * 6 + c) = j.2 i c
theorem rJ_cpy {f g : Nat → Int32} {j : JR} (hR : rJ f j) (h : ∀ q, q < j.1 * 6 → g q = f q) : rJ g j := fun i hi c hc => (h _ (by omega)).trans (hR i hi c hc)
theorem rJ_no {f : Nat → Int32} {x : Nat → Nat → Int32} : rJ f (0, x) := fun i hi => absurd hi (Nat.not_lt_zero _)
theorem rJ_done {f : Nat → Int32} {j : JR} {kd t ky w : Nat} {ch : List Nat} (h : rJ f j) : rJ (upd (upd (upd (upd (upd (upd f (j.1 * 6 + 0) (jrow kd t ky w ch 0)) (j.1 * 6 + 1) (jrow kd t ky w ch 1)) (j.1 * 6 + 2) (jrow kd t ky w ch 2)) (j.1 * 6 + 3) (jrow kd t ky w ch 3)) (j.1 * 6 + 4) (jrow kd t ky w ch 4)) (j.1 * 6 + 5) (jrow kd t ky w ch 5)) (j.1 + 1, fun i => if i = j.1 then jrow kd t ky w ch else j.2 i) := by
  intro i hi c hc
  have hi2 : i < j.1 + 1 := hi
  by_cases e : i = j.1
  · subst e
    show _ = (if j.1 = j.1 then jrow kd t ky w ch else j.2 j.1) c
    rw [if_pos rfl]
    rcases (show c = 0 ∨ c = 1 ∨ c = 2 ∨ c = 3 ∨ c = 4 ∨ c = 5 by omega) with rfl | rfl | rfl | rfl | rfl | rfl <;> simp [upd]
  · show _ = (if i = j.1 then jrow kd t ky w ch else j.2 i) c
    rw [if_neg e, upd_n (by omega), upd_n (by omega), upd_n (by omega), upd_n (by omega), upd_n (by omega), upd_n (by omega)]
    exact h i (by omega) c hc
/-- those that wait -/
def rW (fw : Nat → Int32) (B : Nat → BI) (bn : Nat) (W : Nat × (Nat → WT)) : Prop := ∀ i, i < W.1 → i < 100 → fw (i * 2 + 0) = nI (W.2 i).1 ∧ ∃ s, s < bn ∧ fw (i * 2 + 1) = nI s ∧ bT (B s) = (W.2 i).2.1 ∧ bY (B s) = (W.2 i).2.2.1 ∧ bC' (B s) = (W.2 i).2.2.2
theorem rW_more {fw : Nat → Int32} {B B2 : Nat → BI} {bn bm : Nat} {W : Nat × (Nat → WT)} (h : rW fw B bn W) (hn : bn ≤ bm) (hB : ∀ i, i < bn → B2 i = B i) : rW fw B2 bm W := by
  intro i hi hi1
  obtain ⟨h1, s, h2, h3, h4, h5, h6⟩ := h i hi hi1
  exact ⟨h1, s, by omega, h3, by rw [hB s h2]; exact h4, by rw [hB s h2]; exact h5, by rw [hB s h2]; exact h6⟩
theorem rW_add {fw : Nat → Int32} {B : Nat → BI} {bn : Nat} {W : Nat × (Nat → WT)} {i t ky s : Nat} {ch : List Nat} (h : rW fw B bn W) (hs : s < bn) (h4 : bT (B s) = t) (h5 : bY (B s) = ky) (h6 : bC' (B s) = ch) : rW (upd (upd fw (W.1 * 2 + 0) (nI i)) (W.1 * 2 + 1) (nI s)) B bn (W.1 + 1, fun q => if q = W.1 then (i, t, ky, ch) else W.2 q) := by
  intro q hq hq1
  have hq2 : q < W.1 + 1 := hq
  by_cases e : q = W.1
  · subst e
    simp only [if_true]
    refine ⟨?_, s, hs, upd_e rfl, h4, h5, h6⟩
    rw [upd_n (by omega), upd_e rfl]
  · simp only [if_neg e]
    obtain ⟨g1, s2, g2, g3, g4⟩ := h q (by omega) hq1
    refine ⟨?_, s2, g2, ?_, g4⟩
    · rw [upd_n (by omega), upd_n (by omega)]; exact g1
    · rw [upd_n (by omega), upd_n (by omega)]; exact g3
theorem rW_skip {fw : Nat → Int32} {B : Nat → BI} {bn : Nat} {W : Nat × (Nat → WT)} {x : WT} (h : rW fw B bn W) (hn : ¬ W.1 < 100) : rW fw B bn (W.1 + 1, fun q => if q = W.1 then x else W.2 q) := by
  intro q hq hq1
  have hq2 : q < W.1 + 1 := hq
  by_cases e : q = W.1
  · exact absurd hq1 (by omega)
  · simp only [if_neg e]
    exact h q (by omega) hq1
/-- a chain in an array -/
def rCh (fc : Nat → Int32) (ch : List Nat) : Prop := ∀ k, k < ch.length → fc k = nI (ch.getD k 0)
def ftb (r : RS) : Int32 := if rsn r = 0 then -6 else nI (rsF r).2.1
def fky (r : RS) : Int32 := if rsn r = 0 then -6 else nI (rsF r).2.2.1
def rC (r : RS) (B : Nat → BI) (fs fk fn fj fb fc fw : Nat → Int32) : Prop := rT fs fk fn (rsT r) ∧ rJ fj (rsJ r) ∧ rB fb (rsB r) B ∧ rsP r = mxd B (rsB r) ∧ rW fw B (rsB r) (rsW r) ∧ rCh fc (rsF r).2.2.2
theorem take_snoc {ch c : List Nat} {n m : Nat} (hn : n < ch.length) (h : ch.take (n + 1) = c ++ [m]) : c = ch.take n ∧ m = ch.getD n 0 := by
  rw [List.take_succ, List.getElem?_eq_getElem hn] at h
  have h2 := List.append_inj' h rfl
  refine ⟨h2.1.symm, ?_⟩
  have h3 : ch[n] = m := by simpa using h2.2
  rw [← h3, List.getD_eq_getElem?_getD, List.getElem?_eq_getElem hn]
  rfl
theorem getD_lt {ch : List Nat} {k : Nat} (h : ∀ x ∈ ch, x < 12) : ch.getD k 0 < 12 := by
  rw [List.getD_eq_getElem?_getD]
  cases e : ch[k]? with
  | none => decide
  | some x => exact h x (List.mem_of_getElem? e)
theorem mt1 : ∀ m, m < 16 → ∀ t, t < 4 → (nI m &&& nI (2 ^ t) = 0 ↔ ¬ m.testBit t = true) := by decide +kernel
theorem mt2 : ∀ m, m < 16 → ∀ t, t < 4 → ¬ m.testBit t = true → nI (m ||| 2 ^ t) &&& (nI (2 ^ t) ^^^ (-1)) = nI m := by decide +kernel
theorem mt3 : ∀ m, m < 16 → ∀ t, t < 4 → m ||| 2 ^ t < 16 := by decide +kernel
