/-! PURE: the pad: longs as characters, the text as statements -/
theorem uL_and (q : Int64) : (q &&& 255).toInt32 = nI (uL q % 256) := by
  apply Int32.toBitVec_inj.mp
  unfold nI
  rw [Int32.toBitVec_ofNat', Int64.toBitVec_toInt32, Int64.toBitVec_and]
  apply BitVec.eq_of_toNat_eq
  rw [BitVec.signExtend_eq_setWidth_of_le _ (by decide), BitVec.toNat_setWidth, BitVec.toNat_and, BitVec.toNat_ofNat]
  show (uL q &&& 255) % 2 ^ 32 = (uL q % 256) % 2 ^ 32
  rw [show (255 : Nat) = 2 ^ 8 - 1 by decide, Nat.and_two_pow_sub_one_eq_mod]
theorem uL_shr (q : Int64) {s : Nat} (hs : s < 64) : uL (q.toUInt64 >>> ((nI s).toInt64.toUInt64 &&& Int64.toUInt64 63)).toInt64 = uL q / 2 ^ s := by
  have e : ∀ s, s < 64 → ((nI s).toInt64.toUInt64 &&& Int64.toUInt64 63).toNat = s := by decide +kernel
  show (q.toUInt64 >>> ((nI s).toInt64.toUInt64 &&& Int64.toUInt64 63)).toNat = q.toUInt64.toNat / 2 ^ s
  rw [UInt64.toNat_shiftRight, e s hs, Nat.mod_eq_of_lt hs, Nat.shiftRight_eq_div_pow]
theorem uL_0 {q : Int64} : lg_cmp q 0 = 0 ↔ uL q = 0 := by
  have h : q = 0 ↔ uL q = 0 := by
    constructor
    · rintro rfl; rfl
    · intro e
      apply Int64.toBitVec_inj.mp
      apply BitVec.eq_of_toNat_eq
      exact e
  rw [← h]
  unfold lg_cmp
  split
  · rename_i h1
    constructor
    · intro e; exact absurd e (by decide)
    · rintro rfl; exact absurd h1 (by decide)
  · split
    · simp_all
    · rename_i h1 h2
      constructor
      · intro e; exact absurd e (by decide)
      · intro e; simp_all
theorem byt_lt (u j : Nat) : byt u j < 256 := Nat.mod_lt _ (by decide)
theorem p256 (k : Nat) : 2 ^ (8 * k) = 256 ^ k := by rw [Nat.pow_mul]
theorem ch256 : ∀ b, b < 256 → (nI b).toUInt32.toUInt16.toUInt32.toInt32 = nI b := by decide +kernel
theorem ic256 : ∀ b, b < 256 → ((nI b).toUInt32 % 65536).toInt32 = nI b := by decide +kernel
theorem nar_char {b : Nat} (h : b < 256) : narrow .char (.int (nI b)) = .int (nI b) := congrArg Value.int (ch256 b h)
theorem vpn_char {b : Nat} (h : b < 256) : vp_nar .char (nI b) = nI b := by
  show (match narrow .char (.int (nI b)) with | .int y => y | _ => 0) = nI b
  rw [nar_char h]
def rP (f : Nat → Int32) (P : PD) : Prop := ∀ i, i < P.1 → f i = nI (P.2 i)
def rQ (f : Nat → Int32) (l : SQ) : Prop := ∀ i, i < l.1 → (f (i * 4 + 0) = nI (l.2 i).1 ∧ f (i * 4 + 1) = nI (l.2 i).2.1 ∧ f (i * 4 + 2) = nI (l.2 i).2.2.1 ∧ f (i * 4 + 3) = nI (l.2 i).2.2.2) ∧ (l.2 i).1 < 3 ∧ (l.2 i).2.1 < 4 ∧ (l.2 i).2.2.1 < 100 ∧ (l.2 i).2.2.2 < 1000
theorem rQ_psh {f : Nat → Int32} {l : SQ} {a b c d : Nat} (h : rQ f l) (ha : a < 3) (hb : b < 4) (hc : c < 100) (hd : d < 1000) : rQ (upd (upd (upd (upd f (l.1 * 4 + 0) (nI a)) (l.1 * 4 + 1) (nI b)) (l.1 * 4 + 2) (nI c)) (l.1 * 4 + 3) (nI d)) (psh l (a, b, c, d)) := by
  intro i hi
  have hi2 : i < l.1 + 1 := hi
  by_cases e : i = l.1
  · subst e
    simp only [psh, if_true]
    refine ⟨⟨?_, ?_, ?_, ?_⟩, ha, hb, hc, hd⟩
    · rw [upd_n (by omega), upd_n (by omega), upd_n (by omega), upd_e rfl]
    · rw [upd_n (by omega), upd_n (by omega), upd_e rfl]
    · rw [upd_n (by omega), upd_e rfl]
    · rw [upd_e rfl]
  · simp only [psh, if_neg e]
    have h0 := h i (by omega)
    refine ⟨⟨?_, ?_, ?_, ?_⟩, h0.2⟩
    · rw [upd_n (by omega), upd_n (by omega), upd_n (by omega), upd_n (by omega)]; exact h0.1.1
    · rw [upd_n (by omega), upd_n (by omega), upd_n (by omega), upd_n (by omega)]; exact h0.1.2.1
    · rw [upd_n (by omega), upd_n (by omega), upd_n (by omega), upd_n (by omega)]; exact h0.1.2.2.1
    · rw [upd_n (by omega), upd_n (by omega), upd_n (by omega), upd_n (by omega)]; exact h0.1.2.2.2
theorem rQ_no {f : Nat → Int32} {x : Nat → ST4} : rQ f (0, x) := fun i hi => absurd hi (Nat.not_lt_zero _)
theorem sg_lt {P : PD} {a : Nat} (h : ¬ sg P a = 0) : a < P.1 := by
  unfold sg at h
  split at h
  · assumption
  · exact absurd rfl h
theorem sg_in {P : PD} {a : Nat} (h : a < P.1) : sg P a = P.2 a := if_pos h
theorem sg_out {P : PD} {a : Nat} (h : ¬ a < P.1) : sg P a = 0 := if_neg h
/-- a number goes on, a number ends -/
theorem nmL_stop {P : PD} {k a n : Nat} (h : k = 0 ∨ n = 0 ∨ ¬ (48 ≤ sg P a ∧ sg P a ≤ 57)) : nmL P k a n = (n, a) := by
  cases k with
  | zero => rfl
  | succ k =>
    unfold nmL
    rw [if_neg (by omega)]
theorem nmL_go {P : PD} {k a n : Nat} (h : 1 ≤ k) (h1 : ¬ n = 0) (h2 : 48 ≤ sg P a) (h3 : sg P a ≤ 57) : nmL P k a n = nmL P (k - 1) (a + 1) (n * 10 + (sg P a - 48)) := by
  cases k with
  | zero => omega
  | succ k =>
    rw [Nat.add_sub_cancel]
    show (if ¬ n = 0 ∧ 48 ≤ sg P a ∧ sg P a ≤ 57 then nmL P k (a + 1) (n * 10 + (sg P a - 48)) else (n, a)) = _
    rw [if_pos ⟨h1, h2, h3⟩]
theorem nmP_none {P : PD} {b k a : Nat} (h : ¬ (48 ≤ sg P a ∧ sg P a < 48 + b)) : nmP P b k a = none := if_neg h
theorem nmP_some {P : PD} {b k a : Nat} (h : 48 ≤ sg P a ∧ sg P a < 48 + b) : nmP P b k a = some (nmL P k (a + 1) (sg P a - 48)) := if_pos h
theorem nmL_le {P : PD} : ∀ {k a n : Nat}, a ≤ P.1 → a ≤ (nmL P k a n).2 ∧ (nmL P k a n).2 ≤ P.1
  | 0, a, n, h => ⟨Nat.le_refl _, h⟩
  | k + 1, a, n, h => by
    unfold nmL
    split
    · rename_i h1
      have h2 : a < P.1 := sg_lt (by omega)
      have := nmL_le (P := P) (k := k) (a := a + 1) (n := n * 10 + (sg P a - 48)) h2
      omega
    · exact ⟨Nat.le_refl _, h⟩
theorem nmP_le {P : PD} {b k a v a2 : Nat} (h : nmP P b k a = some (v, a2)) : a + 1 ≤ a2 ∧ a2 ≤ P.1 := by
  unfold nmP at h
  split at h
  · rename_i h1
    have h2 : a < P.1 := sg_lt (by omega)
    have h3 := nmL_le (P := P) (k := k) (a := a + 1) (n := sg P a - 48) h2
    have h4 : nmL P k (a + 1) (sg P a - 48) = (v, a2) := Option.some.inj h
    rw [h4] at h3
    exact h3
  · cases h
/-! a statement, case by case -/
section STM
variable {P : PD} {a : Nat}
theorem stm_1 (h : ¬ (sg P a = 108 ∨ sg P a = 97 ∨ sg P a = 100)) : stmP P a = (a, none) := by unfold stmP; rw [if_pos h]
theorem stm_2 (h : sg P a = 108 ∨ sg P a = 97 ∨ sg P a = 100) (h1 : nmP P 4 0 (a + 1) = none) : stmP P a = (a + 1, none) := by
  unfold stmP
  rw [if_neg (fun q => q h), h1]
theorem stm_3 {t a2 : Nat} (h : sg P a = 108 ∨ sg P a = 97 ∨ sg P a = 100) (h1 : nmP P 4 0 (a + 1) = some (t, a2)) (h2 : ¬ sg P a2 = 46) : stmP P a = (a2, none) := by
  unfold stmP
  rw [if_neg (fun q => q h), h1]
  show (if ¬ sg P a2 = 46 then _ else _) = _
  rw [if_pos h2]
theorem stm_4 {t a2 : Nat} (h : sg P a = 108 ∨ sg P a = 97 ∨ sg P a = 100) (h1 : nmP P 4 0 (a + 1) = some (t, a2)) (h2 : sg P a2 = 46) (h3 : nmP P 10 1 (a2 + 1) = none) : stmP P a = (a2 + 1, none) := by
  unfold stmP
  rw [if_neg (fun q => q h), h1]
  show (if ¬ sg P a2 = 46 then _ else _) = _
  rw [if_neg (fun q => q h2), h3]
theorem stm_5 {t a2 ky a3 : Nat} (h : sg P a = 100) (h1 : nmP P 4 0 (a + 1) = some (t, a2)) (h2 : sg P a2 = 46) (h3 : nmP P 10 1 (a2 + 1) = some (ky, a3)) : stmP P a = (a3, some (2, t, ky, 0)) := by
  unfold stmP
  rw [if_neg (fun q => q (Or.inr (Or.inr h))), h1]
  show (if ¬ sg P a2 = 46 then _ else _) = _
  rw [if_neg (fun q => q h2), h3]
  show (if sg P a = 100 then _ else _) = _
  rw [if_pos h]
theorem stm_6 {t a2 ky a3 : Nat} (h : sg P a = 108 ∨ sg P a = 97) (h1 : nmP P 4 0 (a + 1) = some (t, a2)) (h2 : sg P a2 = 46) (h3 : nmP P 10 1 (a2 + 1) = some (ky, a3)) (h4 : ¬ sg P a3 = (if sg P a = 108 then 61 else 43)) : stmP P a = (a3, none) := by
  unfold stmP
  rw [if_neg (fun q => q (h.elim Or.inl (fun z => Or.inr (Or.inl z)))), h1]
  show (if ¬ sg P a2 = 46 then _ else _) = _
  rw [if_neg (fun q => q h2), h3]
  show (if sg P a = 100 then _ else _) = _
  rw [if_neg (by omega), if_pos h4]
theorem stm_7 {t a2 ky a3 : Nat} (h : sg P a = 108 ∨ sg P a = 97) (h1 : nmP P 4 0 (a + 1) = some (t, a2)) (h2 : sg P a2 = 46) (h3 : nmP P 10 1 (a2 + 1) = some (ky, a3)) (h4 : sg P a3 = (if sg P a = 108 then 61 else 43)) (h5 : nmP P 10 2 (a3 + 1) = none) : stmP P a = (a3 + 1, none) := by
  unfold stmP
  rw [if_neg (fun q => q (h.elim Or.inl (fun z => Or.inr (Or.inl z)))), h1]
  show (if ¬ sg P a2 = 46 then _ else _) = _
  rw [if_neg (fun q => q h2), h3]
  show (if sg P a = 100 then _ else _) = _
  rw [if_neg (by omega), if_neg (fun q => q h4), h5]
theorem stm_8 {t a2 ky a3 nm a4 : Nat} (h : sg P a = 108 ∨ sg P a = 97) (h1 : nmP P 4 0 (a + 1) = some (t, a2)) (h2 : sg P a2 = 46) (h3 : nmP P 10 1 (a2 + 1) = some (ky, a3)) (h4 : sg P a3 = (if sg P a = 108 then 61 else 43)) (h5 : nmP P 10 2 (a3 + 1) = some (nm, a4)) : stmP P a = (a4, some ((if sg P a = 108 then 0 else 1), t, ky, nm)) := by
  unfold stmP
  rw [if_neg (fun q => q (h.elim Or.inl (fun z => Or.inr (Or.inl z)))), h1]
  show (if ¬ sg P a2 = 46 then _ else _) = _
  rw [if_neg (fun q => q h2), h3]
  show (if sg P a = 100 then _ else _) = _
  rw [if_neg (by omega), if_neg (fun q => q h4), h5]
end STM
/-- the text, turn by turn -/
theorem prs_1 {P : PD} {n a a2 : Nat} {l : SQ} (h : stmP P a = (a2, none)) : prsP P (n + 1) a l = (some a2, l) := by
  show (match stmP P a with | (a2, none) => (some a2, l) | (a2, some x) => if P.1 ≤ a2 then (none, psh l x) else if sg P a2 = 59 then prsP P n (a2 + 1) (psh l x) else (some a2, psh l x)) = _
  rw [h]
theorem prs_2 {P : PD} {n a a2 : Nat} {l : SQ} {x : ST4} (h : stmP P a = (a2, some x)) (h2 : P.1 ≤ a2) : prsP P (n + 1) a l = (none, psh l x) := by
  show (match stmP P a with | (a2, none) => (some a2, l) | (a2, some x) => if P.1 ≤ a2 then (none, psh l x) else if sg P a2 = 59 then prsP P n (a2 + 1) (psh l x) else (some a2, psh l x)) = _
  rw [h]
  show (if P.1 ≤ a2 then _ else _) = _
  rw [if_pos h2]
theorem prs_3 {P : PD} {n a a2 : Nat} {l : SQ} {x : ST4} (h : stmP P a = (a2, some x)) (h2 : ¬ P.1 ≤ a2) (h3 : sg P a2 = 59) : prsP P (n + 1) a l = prsP P n (a2 + 1) (psh l x) := by
  show (match stmP P a with | (a2, none) => (some a2, l) | (a2, some x) => if P.1 ≤ a2 then (none, psh l x) else if sg P a2 = 59 then prsP P n (a2 + 1) (psh l x) else (some a2, psh l x)) = _
  rw [h]
  show (if P.1 ≤ a2 then _ else _) = _
  rw [if_neg h2, if_pos h3]
theorem prs_4 {P : PD} {n a a2 : Nat} {l : SQ} {x : ST4} (h : stmP P a = (a2, some x)) (h2 : ¬ P.1 ≤ a2) (h3 : ¬ sg P a2 = 59) : prsP P (n + 1) a l = (some a2, psh l x) := by
  show (match stmP P a with | (a2, none) => (some a2, l) | (a2, some x) => if P.1 ≤ a2 then (none, psh l x) else if sg P a2 = 59 then prsP P n (a2 + 1) (psh l x) else (some a2, psh l x)) = _
  rw [h]
  show (if P.1 ≤ a2 then _ else _) = _
  rw [if_neg h2, if_neg h3]
theorem sgn_go {u k j : Nat} (hk : 1 ≤ k) (h1 : ¬ u / 256 ^ j = 0) (h2 : ¬ (byt u j < 33 ∨ 126 < byt u j)) : sgnN u k j = sgnN u (k - 1) (j + 1) := by
  cases k with
  | zero => omega
  | succ k =>
    rw [Nat.add_sub_cancel]
    show (if u / 256 ^ j = 0 then _ else _) = _
    rw [if_neg h1, if_neg h2]
theorem sgn_0 {u k j : Nat} (hk : 1 ≤ k) (h1 : ¬ u / 256 ^ j = 0) (h2 : byt u j < 33 ∨ 126 < byt u j) : sgnN u k j = 0 := by
  cases k with
  | zero => omega
  | succ k =>
    show (if u / 256 ^ j = 0 then _ else _) = _
    rw [if_neg h1, if_pos h2]
theorem sgn_j {u k j : Nat} (h : k = 0 ∨ u / 256 ^ j = 0) : sgnN u k j = j := by
  cases k with
  | zero => rfl
  | succ k =>
    show (if u / 256 ^ j = 0 then _ else _) = _
    rw [if_pos (h.resolve_left (by omega))]
theorem stm_le {P : PD} {a a2 : Nat} {x : ST4} (h : stmP P a = (a2, some x)) : a + 4 ≤ a2 ∧ a2 ≤ P.1 := by
  unfold stmP at h
  split at h
  · cases h
  · split at h
    · cases h
    · rename_i t b1 e1
      have g1 := nmP_le e1
      split at h
      · cases h
      · split at h
        · cases h
        · rename_i ky b2 e2
          have g2 := nmP_le e2
          split at h
          · cases h; omega
          · by_cases h5 : ¬ sg P b2 = (if sg P a = 108 then 61 else 43)
            · rw [if_pos h5] at h; cases h
            · rw [if_neg h5] at h
              split at h
              · cases h
              · rename_i nm b3 e3
                have g3 := nmP_le e3
                cases h; omega
