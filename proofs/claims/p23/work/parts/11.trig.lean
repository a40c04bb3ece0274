/-! PURE: the triggers, sets of them as masks -/
abbrev TR : Type := Nat × (Nat → Nat → Nat)
def wfR (ρ : TR) : Prop := ρ.1 ≤ 12 ∧ ∀ i, i < ρ.1 → ρ.2 i 0 < 4 ∧ ρ.2 i 1 < 3 ∧ ρ.2 i 2 < 3 ∧ ρ.2 i 3 < 1000 ∧ ρ.2 i 4 < 4 ∧ ρ.2 i 5 < 4 ∧ ρ.2 i 6 < 100 ∧ ρ.2 i 7 < 1000
def rR (f : Nat → Int32) (ρ : TR) : Prop := ∀ i, i < ρ.1 → ∀ c, c < 8 → f (i * 8 + c) = nI (ρ.2 i c)
/-- a trigger made at the end, one given its deed, one dropped -/
def addR (ρ : TR) (t k s b : Nat) : TR := (ρ.1 + 1, fun i c => if i = ρ.1 then (if c = 0 then t else if c = 1 then k else if c = 2 then s else if c = 3 then b else 0) else ρ.2 i c)
def deedR (ρ : TR) (q d t s m : Nat) : TR := (ρ.1, fun i c => if i = q ∧ 4 ≤ c then (if c = 4 then d else if c = 5 then t else if c = 6 then s else m) else ρ.2 i c)
def drpR (ρ : TR) (q : Nat) : TR := (ρ.1 - 1, fun i c => if i < q then ρ.2 i c else ρ.2 (i + 1) c)
theorem wfR_add {ρ : TR} {t k s b : Nat} (hw : wfR ρ) (h : ρ.1 < 12) (ht : t < 4) (hk : k < 3) (hs : s < 3) (hb : b < 1000) : wfR (addR ρ t k s b) := by
  refine ⟨h, fun i hi => ?_⟩
  have hi2 : i < ρ.1 + 1 := hi
  by_cases e : i = ρ.1
  · simp [addR, e]
    omega
  · simp only [addR, if_neg e]
    exact hw.2 i (by omega)
theorem wfR_deed {ρ : TR} {q d t s m : Nat} (hw : wfR ρ) (hd : d < 4) (ht : t < 4) (hs : s < 100) (hm : m < 1000) : wfR (deedR ρ q d t s m) := by
  refine ⟨hw.1, fun i hi => ?_⟩
  have h0 := hw.2 i hi
  by_cases e : i = q
  · subst e
    simp [deedR]
    omega
  · simp [deedR, e]
    omega
theorem wfR_drp {ρ : TR} {q : Nat} (hw : wfR ρ) : wfR (drpR ρ q) := by
  refine ⟨Nat.le_trans (Nat.sub_le _ _) hw.1, fun i hi => ?_⟩
  have hi2 : i < ρ.1 - 1 := hi
  by_cases e : i < q
  · simp only [drpR, if_pos e]
    exact hw.2 i (by omega)
  · simp only [drpR, if_neg e]
    exact hw.2 (i + 1) (by omega)
theorem rR_add {f : Nat → Int32} {ρ : TR} {t k s b : Nat} (hR : rR f ρ) : rR (upd (upd (upd (upd (upd (upd (upd (upd f (ρ.1 * 8 + 0) (nI t)) (ρ.1 * 8 + 1) (nI k)) (ρ.1 * 8 + 2) (nI s)) (ρ.1 * 8 + 3) (nI b)) (ρ.1 * 8 + 4) (nI 0)) (ρ.1 * 8 + 5) (nI 0)) (ρ.1 * 8 + 6) (nI 0)) (ρ.1 * 8 + 7) (nI 0)) (addR ρ t k s b) := by
  intro i hi c hc
  have hi2 : i < ρ.1 + 1 := hi
  by_cases e : i = ρ.1
  · subst e
    rcases (show c = 0 ∨ c = 1 ∨ c = 2 ∨ c = 3 ∨ c = 4 ∨ c = 5 ∨ c = 6 ∨ c = 7 by omega) with rfl | rfl | rfl | rfl | rfl | rfl | rfl | rfl <;> simp [addR, upd]
  · have h1 := hR i (by omega) c hc
    simp only [addR, if_neg e]
    rw [upd_n (by omega), upd_n (by omega), upd_n (by omega), upd_n (by omega), upd_n (by omega), upd_n (by omega), upd_n (by omega), upd_n (by omega)]
    exact h1
theorem rR_deed {f : Nat → Int32} {ρ : TR} {q d t s m : Nat} (hR : rR f ρ) : rR (upd (upd (upd (upd f (q * 8 + 4) (nI d)) (q * 8 + 5) (nI t)) (q * 8 + 6) (nI s)) (q * 8 + 7) (nI m)) (deedR ρ q d t s m) := by
  intro i hi c hc
  have h1 := hR i hi c hc
  by_cases e : i = q
  · subst e
    rcases (show c = 0 ∨ c = 1 ∨ c = 2 ∨ c = 3 ∨ c = 4 ∨ c = 5 ∨ c = 6 ∨ c = 7 by omega) with rfl | rfl | rfl | rfl | rfl | rfl | rfl | rfl <;> simp [deedR, upd] <;> exact h1
  · have e2 : ¬ (i = q ∧ 4 ≤ c) := fun h => e h.1
    simp only [deedR, if_neg e2]
    rw [upd_n (by omega), upd_n (by omega), upd_n (by omega), upd_n (by omega)]
    exact h1
theorem rR_drp {f f2 : Nat → Int32} {ρ : TR} {q : Nat} (hR : rR f ρ) (h1 : ∀ j, j < q * 8 → f2 j = f j) (h2 : ∀ j, q * 8 ≤ j → j < (ρ.1 - 1) * 8 → f2 j = f (j + 8)) : rR f2 (drpR ρ q) := by
  intro i hi c hc
  have hi2 : i < ρ.1 - 1 := hi
  by_cases e : i < q
  · simp only [drpR, if_pos e]
    rw [h1 _ (by omega)]
    exact hR i (by omega) c hc
  · simp only [drpR, if_neg e]
    rw [h2 _ (by omega) (by omega), show i * 8 + c + 8 = (i + 1) * 8 + c by omega]
    exact hR (i + 1) (by omega) c hc
theorem rR_cpy {f g : Nat → Int32} {ρ : TR} (hR : rR f ρ) (h : ∀ j, j < ρ.1 * 8 → g j = f j) : rR g ρ := fun i hi c hc => (h _ (by omega)).trans (hR i hi c hc)
/-- masks -/
theorem nI_and (a b : Nat) : nI a &&& nI b = nI (a &&& b) := by
  apply Int32.toBitVec_inj.mp
  simp only [nI, Int32.toBitVec_and, Int32.toBitVec_ofNat']
  apply BitVec.eq_of_getLsbD_eq
  intro i hi
  simp [Nat.testBit_and]
theorem nI_or (a b : Nat) : nI a ||| nI b = nI (a ||| b) := by
  apply Int32.toBitVec_inj.mp
  simp only [nI, Int32.toBitVec_or, Int32.toBitVec_ofNat']
  apply BitVec.eq_of_getLsbD_eq
  intro i hi
  simp [Nat.testBit_or, hi]
theorem sh1 : ∀ o, o < 12 → nI 1 <<< (nI o &&& 31) = nI (2 ^ o) := by decide +kernel
theorem sm12 : ∀ o, o < 12 → ((nI o &&& 31).toBitVec.smod 32).toNat = o := by decide +kernel
theorem shr12 {s o : Nat} (hs : s < 4096) (ho : o < 12) : nI s >>> (nI o &&& 31) = nI (s / 2 ^ o) := pk_shrN (by omega) _ o (sm12 o ho)
theorem bit12 (s o : Nat) : (s / 2 ^ o) &&& 1 = if s.testBit o then 1 else 0 := by
  rw [Nat.and_one_is_mod, Nat.testBit_eq_decide_div_mod_eq]
  have := Nat.mod_two_eq_zero_or_one (s / 2 ^ o)
  rcases this with h | h <;> simp [h]
theorem or_lt12 {a b : Nat} (ha : a < 4096) (hb : b < 4096) : a ||| b < 4096 := Nat.or_lt_two_pow (n := 12) ha hb
theorem p12 {o : Nat} (h : o < 12) : 2 ^ o < 4096 := Nat.pow_lt_pow_of_lt (by decide) h
theorem kd_iff {k d : Nat} (hk : k < 100) (hd : d < 100) : nI k = nI d - nI 1 ↔ k + 1 = d := by
  rcases Nat.eq_zero_or_pos d with e | e
  · subst e
    constructor
    · intro h
      exact absurd h (nI_nneg (by omega) (by decide))
    · intro h; omega
  · rw [pk_sub e]
    constructor
    · intro h
      have := nI_inj (by omega) (by omega) h
      omega
    · intro h
      rw [← h]
      rfl
/-- whom the statement of a trigger's deed could set off, among the first k -/
def folN (ρ : TR) (i : Nat) : Nat → Nat
  | 0 => 0
  | k + 1 => if ρ.2 k 0 = ρ.2 i 5 ∧ ρ.2 k 1 + 1 = ρ.2 i 4 then folN ρ i k ||| 2 ^ k else folN ρ i k
abbrev fol (ρ : TR) (i : Nat) : Nat := folN ρ i ρ.1
theorem folN_lt (ρ : TR) (i : Nat) : ∀ k, k ≤ 12 → folN ρ i k < 4096
  | 0, _ => Nat.zero_lt_succ _
  | k + 1, h => by
    have := folN_lt ρ i k (by omega)
    unfold folN
    split
    · exact or_lt12 this (p12 (by omega))
    · exact this
def folA (ρ : TR) (s : Nat) : Nat → Nat
  | 0 => 0
  | k + 1 => if s.testBit k = true then folA ρ s k ||| fol ρ k else folA ρ s k
theorem folA_lt {ρ : TR} (hw : ρ.1 ≤ 12) (s : Nat) : ∀ k, folA ρ s k < 4096
  | 0 => Nat.zero_lt_succ _
  | k + 1 => by
    have := folA_lt hw s k
    unfold folA
    split
    · exact or_lt12 this (folN_lt ρ k _ hw)
    · exact this
/-- whom a trigger reaches in some steps -/
def rch (ρ : TR) (i : Nat) : Nat → Nat
  | 0 => fol ρ i
  | s + 1 => rch ρ i s ||| folA ρ (rch ρ i s) ρ.1
theorem rch_lt {ρ : TR} (hw : ρ.1 ≤ 12) (i : Nat) : ∀ s, rch ρ i s < 4096
  | 0 => folN_lt ρ i _ hw
  | s + 1 => or_lt12 (rch_lt hw i s) (folA_lt hw _ _)
/-- whether a trigger could set off itself -/
def slfB (ρ : TR) (i : Nat) : Bool := (rch ρ i 11).testBit i
def slfN (ρ : TR) : Nat → Nat
  | 0 => 0
  | k + 1 => if slfB ρ k = true then slfN ρ k ||| 2 ^ k else slfN ρ k
theorem slfN_lt (ρ : TR) : ∀ k, k ≤ 12 → slfN ρ k < 4096
  | 0, _ => Nat.zero_lt_succ _
  | k + 1, h => by
    have := slfN_lt ρ k (by omega)
    unfold slfN
    split
    · exact or_lt12 this (p12 (by omega))
    · exact this
