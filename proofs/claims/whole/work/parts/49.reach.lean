/-! PURE: whom a trigger reaches, the reference's way -/
def subB (a b : Nat) : Prop := ∀ i, a.testBit i = true → b.testBit i = true
theorem subB.rfl' {a : Nat} : subB a a := fun _ h => h
theorem subB.trans {a b c : Nat} (h : subB a b) (h2 : subB b c) : subB a c := fun i hi => h2 i (h i hi)
theorem subB_or {a b c : Nat} (h : subB a c) (h2 : subB b c) : subB (a ||| b) c := by
  intro i hi
  rw [Nat.testBit_or] at hi
  rcases Bool.or_eq_true_iff.mp hi with z | z
  · exact h i z
  · exact h2 i z
theorem subB_l {a b : Nat} : subB a (a ||| b) := fun i hi => by rw [Nat.testBit_or, hi]; rfl
theorem subB_r {a b : Nat} : subB b (a ||| b) := fun i hi => by rw [Nat.testBit_or, hi, Bool.or_true]
theorem subB_eq {a b : Nat} (h : subB a b) (h2 : subB b a) : a = b := by
  apply Nat.eq_of_testBit_eq
  intro i
  cases e : a.testBit i with
  | true => exact (h i e).symm
  | false =>
    cases e2 : b.testBit i with
    | false => rfl
    | true =>
      have := h2 i e2
      rw [e] at this
      cases this
theorem subB_0 {b : Nat} : subB 0 b := fun i hi => by rw [Nat.zero_testBit] at hi; cases hi
theorem bit_lt {a i : Nat} (ha : a < 4096) (h : a.testBit i = true) : i < 12 := by
  refine Classical.byContradiction fun hi => ?_
  have h1 : a < 2 ^ i := Nat.lt_of_lt_of_le ha (show 2 ^ 12 ≤ 2 ^ i from Nat.pow_le_pow_right (by decide) (by omega))
  rw [Nat.testBit_lt_two_pow h1] at h
  cases h
/-- bits counted -/
def cntB (m : Nat) : Nat → Nat
  | 0 => 0
  | n + 1 => cntB m n + (if m.testBit n = true then 1 else 0)
theorem cnt_le {a b : Nat} (h : subB a b) : ∀ n, cntB a n ≤ cntB b n
  | 0 => Nat.le_refl _
  | n + 1 => by
    have h1 := cnt_le h n
    unfold cntB
    by_cases e : a.testBit n = true
    · rw [if_pos e, if_pos (h n e)]; omega
    · rw [if_neg e]; omega
theorem cnt_lt {a b : Nat} (h : subB a b) {i : Nat} (h1 : ¬ a.testBit i = true) (h2 : b.testBit i = true) : ∀ n, i < n → cntB a n < cntB b n
  | 0, hi => absurd hi (Nat.not_lt_zero _)
  | n + 1, hi => by
    unfold cntB
    by_cases e : i = n
    · subst e
      rw [if_neg h1, if_pos h2]
      have := cnt_le h i
      omega
    · have h3 := cnt_lt h h1 h2 n (by omega)
      by_cases e2 : a.testBit n = true
      · rw [if_pos e2, if_pos (h n e2)]; omega
      · rw [if_neg e2]; omega
theorem cnt_bd (m : Nat) : ∀ n, cntB m n ≤ n
  | 0 => Nat.le_refl _
  | n + 1 => by
    have := cnt_bd m n
    unfold cntB
    split <;> omega
theorem cnt_full {m : Nat} : ∀ n, n ≤ cntB m n → ∀ i, i < n → m.testBit i = true
  | 0, _, i, hi => absurd hi (Nat.not_lt_zero _)
  | n + 1, h, i, hi => by
    have hb := cnt_bd m n
    unfold cntB at h
    have e : m.testBit n = true := by
      refine Classical.byContradiction fun z => ?_
      rw [if_neg z] at h
      omega
    rw [if_pos e] at h
    by_cases q : i = n
    · subst q; exact e
    · exact cnt_full n (by omega) i (by omega)
theorem folA_sub {ρ : TR} {s b : Nat} : ∀ n, (∀ k, k < n → s.testBit k = true → subB (fol ρ k) b) → subB (folA ρ s n) b
  | 0, _ => subB_0
  | n + 1, h => by
    have h1 := folA_sub n (fun k hk => h k (by omega))
    unfold folA
    split
    · rename_i e
      exact subB_or h1 (h n (Nat.lt_succ_self n) e)
    · exact h1
theorem folA_has {ρ : TR} {s k : Nat} : ∀ n, k < n → s.testBit k = true → subB (fol ρ k) (folA ρ s n)
  | 0, h, _ => absurd h (Nat.not_lt_zero _)
  | n + 1, h, e => by
    unfold folA
    by_cases q : k = n
    · subst q
      rw [if_pos e]
      exact subB_r
    · have h1 := folA_has (ρ := ρ) n (by omega) e
      split
      · exact h1.trans subB_l
      · exact h1
theorem rch_succ (ρ : TR) (t s : Nat) : rch ρ t (s + 1) = rch ρ t s ||| folA ρ (rch ρ t s) ρ.1 := rfl
theorem rch_mono {ρ : TR} {t s : Nat} : subB (rch ρ t s) (rch ρ t (s + 1)) := subB_l
theorem rch_le {ρ : TR} {t s : Nat} : ∀ d, subB (rch ρ t s) (rch ρ t (s + d))
  | 0 => subB.rfl'
  | d + 1 => (rch_le d).trans rch_mono
theorem rch_stay {ρ : TR} {t s : Nat} (h : rch ρ t (s + 1) = rch ρ t s) : ∀ d, rch ρ t (s + d) = rch ρ t s
  | 0 => rfl
  | d + 1 => by
    show rch ρ t (s + d + 1) = _
    rw [rch_succ, rch_stay h d, ← rch_succ, h]
theorem rch_cnt {ρ : TR} (hw : ρ.1 ≤ 12) (t : Nat) : ∀ s, (∃ q, q ≤ s ∧ rch ρ t (q + 1) = rch ρ t q) ∨ s + 1 ≤ cntB (rch ρ t s) 12
  | 0 => by
    by_cases e : rch ρ t 0 = 0
    · refine Or.inl ⟨0, Nat.le_refl _, ?_⟩
      rw [rch_succ, e]
      refine subB_eq (subB_or subB_0 (folA_sub _ (fun k _ z => ?_))) subB_0
      rw [Nat.zero_testBit] at z
      cases z
    · refine Or.inr ?_
      obtain ⟨i, hi⟩ : ∃ i, (rch ρ t 0).testBit i = true := by
        refine Classical.byContradiction fun z => e (subB_eq (fun i hi => absurd ⟨i, hi⟩ z) subB_0)
      have h1 := cnt_lt (a := 0) (b := rch ρ t 0) subB_0 (i := i) (by rw [Nat.zero_testBit]; decide) hi 12 (bit_lt (rch_lt hw t 0) hi)
      omega
  | s + 1 => by
    rcases rch_cnt hw t s with ⟨q, h1, h2⟩ | h1
    · exact Or.inl ⟨q, by omega, h2⟩
    · by_cases e : rch ρ t (s + 1) = rch ρ t s
      · exact Or.inl ⟨s, by omega, e⟩
      · refine Or.inr ?_
        obtain ⟨i, hi, hn⟩ : ∃ i, (rch ρ t (s + 1)).testBit i = true ∧ ¬ (rch ρ t s).testBit i = true := by
          refine Classical.byContradiction fun z => e (subB_eq (fun i hi => Classical.byContradiction fun y => z ⟨i, hi, y⟩) rch_mono)
        have h2 := cnt_lt rch_mono hn hi 12 (bit_lt (rch_lt hw t _) hi)
        omega
theorem rch_12 {ρ : TR} (hw : ρ.1 ≤ 12) (t : Nat) : rch ρ t 12 = rch ρ t 11 := by
  rcases rch_cnt hw t 11 with ⟨q, h1, h2⟩ | h1
  · have e1 := rch_stay h2 (12 - q)
    have e2 := rch_stay h2 (11 - q)
    rw [show q + (12 - q) = 12 by omega] at e1
    rw [show q + (11 - q) = 11 by omega] at e2
    rw [e1, e2]
  · refine subB_eq (fun i hi => cnt_full 12 h1 i (bit_lt (rch_lt hw t 12) hi)) (rch_le (s := 11) 1)
/-- the end: closed -/
theorem R_fol {ρ : TR} (hw : ρ.1 ≤ 12) {t k : Nat} (hk : k < ρ.1) (h : (rch ρ t 11).testBit k = true) : subB (fol ρ k) (rch ρ t 11) := by
  have h1 : subB (fol ρ k) (rch ρ t 12) := (folA_has (ρ := ρ) (s := rch ρ t 11) ρ.1 hk h).trans subB_r
  rw [rch_12 hw] at h1
  exact h1
theorem R_sub {ρ : TR} (hw : ρ.1 ≤ 12) {t k : Nat} (hk : k < ρ.1) (h : (rch ρ t 11).testBit k = true) : ∀ s, subB (rch ρ k s) (rch ρ t 11)
  | 0 => R_fol hw hk h
  | s + 1 => subB_or (R_sub hw hk h s) (folA_sub _ (fun q hq z => R_fol hw hq (R_sub hw hk h s q z)))
theorem folN_bit {ρ : TR} {i b : Nat} : ∀ k, (folN ρ i k).testBit b = true → b < k
  | 0, h => by
    have h2 : (0 : Nat).testBit b = true := h
    rw [Nat.zero_testBit] at h2; cases h2
  | k + 1, h => by
    unfold folN at h
    split at h
    · rw [Nat.testBit_or] at h
      rcases Bool.or_eq_true_iff.mp h with z | z
      · have := folN_bit k z; omega
      · by_cases e : k = b
        · omega
        · rw [Nat.testBit_two_pow_of_ne e] at z; cases z
    · have := folN_bit k h; omega
/-- the reference's sets -/
def setK (ρ : TR) (t k : Nat) : Nat := if t < ρ.1 then folN ρ t k else 0
def rchX (ρ : TR) (t s : Nat) : Nat := if t < ρ.1 then rch ρ t s else 0
theorem setK_lt {ρ : TR} {t k : Nat} (hk : k ≤ 12) : setK ρ t k < 4096 := by
  unfold setK
  split
  · exact folN_lt ρ t k hk
  · decide
theorem setK_on {ρ : TR} {t k : Nat} (ht : t < ρ.1) (h1 : ρ.2 k 0 = ρ.2 t 5) (h2 : ρ.2 k 1 + 1 = ρ.2 t 4) : setK ρ t (k + 1) = setK ρ t k ||| 2 ^ k := by
  unfold setK
  rw [if_pos ht, if_pos ht]
  show (if _ then _ else _) = _
  rw [if_pos ⟨h1, h2⟩]
theorem setK_off {ρ : TR} {t k : Nat} (h : ¬ (t < ρ.1 ∧ ρ.2 k 0 = ρ.2 t 5 ∧ ρ.2 k 1 + 1 = ρ.2 t 4)) : setK ρ t (k + 1) = setK ρ t k := by
  unfold setK
  by_cases e : t < ρ.1
  · rw [if_pos e, if_pos e]
    show (if _ then _ else _) = _
    rw [if_neg (fun z => h ⟨e, z⟩)]
  · rw [if_neg e, if_neg e]
theorem rchX_bit {ρ : TR} (hw : ρ.1 ≤ 12) {t s b : Nat} (h : (rchX ρ t s).testBit b = true) : b < ρ.1 := by
  unfold rchX at h
  split at h
  · clear hw
    induction s with
    | zero => exact folN_bit _ h
    | succ s ih =>
      rw [rch_succ, Nat.testBit_or] at h
      rcases Bool.or_eq_true_iff.mp h with z | z
      · exact ih z
      · have h3 : ∀ n, (folA ρ (rch ρ t s) n).testBit b = true → b < ρ.1 := by
          intro n
          induction n with
          | zero =>
            intro y
            have y2 : (0 : Nat).testBit b = true := y
            rw [Nat.zero_testBit] at y2; cases y2
          | succ n ihn =>
            intro y
            unfold folA at y
            split at y
            · rw [Nat.testBit_or] at y
              rcases Bool.or_eq_true_iff.mp y with x | x
              · exact ihn x
              · exact folN_bit _ x
            · exact ihn y
        exact h3 _ z
  · rw [Nat.zero_testBit] at h; cases h
/-- what holds of the sets 'far': sound; complete to a number of steps, for the first t one step more -/
def farI (ρ : TR) (f : Nat → Nat) (r t : Nat) : Prop := (∀ q, q < 12 → f q < 4096 ∧ subB (f q) (rchX ρ q 11) ∧ subB (setK ρ q ρ.1) (f q)) ∧ (∀ q, q < t → subB (rchX ρ q (r + 1)) (f q)) ∧ ∀ q, t ≤ q → q < 12 → subB (rchX ρ q r) (f q)
/-- within: the k's below are done -/
def farK (ρ : TR) (f : Nat → Nat) (r t k : Nat) : Prop := farI ρ f r t ∧ ∀ q, q < k → (rchX ρ t r).testBit q = true → subB (setK ρ q ρ.1) (f t)
def updF (f : Nat → Nat) (t x : Nat) : Nat → Nat := fun q => if q = t then x else f q
theorem updF_e {f : Nat → Nat} {t x q : Nat} (h : q = t) : updF f t x q = x := if_pos h
theorem updF_n {f : Nat → Nat} {t x q : Nat} (h : ¬ q = t) : updF f t x q = f q := if_neg h
theorem far_0 {ρ : TR} (hw : ρ.1 ≤ 12) {f : Nat → Nat} (h : ∀ q, q < 12 → f q = setK ρ q ρ.1) : farI ρ f 0 0 := by
  refine ⟨fun q hq => ⟨?_, ?_, ?_⟩, fun q hq => absurd hq (Nat.not_lt_zero _), fun q _ hq => ?_⟩
  · rw [h q hq]; exact setK_lt hw
  · rw [h q hq]
    unfold setK rchX
    split
    · exact rch_le (s := 0) 11
    · exact subB.rfl'
  · rw [h q hq]; exact subB.rfl'
  · rw [h q hq]
    unfold setK rchX
    split
    · exact subB.rfl'
    · exact subB.rfl'
theorem far_k {ρ : TR} (hw : ρ.1 ≤ 12) {f : Nat → Nat} {r t k : Nat} (ht : t < 12) (hk : k < 12) (h : farK ρ f r t k) (x : Nat) (hx : x = f t ||| (if (f t).testBit k = true then f k else 0)) : farK ρ (updF f t x) r t (k + 1) := by
  obtain ⟨⟨h1, h2, h3⟩, h4⟩ := h
  have hup : subB (f t) x := by rw [hx]; exact subB_l
  have hx4 : x < 4096 := by
    rw [hx]
    refine or_lt12 (h1 t ht).1 ?_
    split
    · exact (h1 k hk).1
    · decide
  have hxR : subB x (rchX ρ t 11) := by
    rw [hx]
    refine subB_or (h1 t ht).2.1 ?_
    split
    · rename_i e
      have e2 := (h1 t ht).2.1 k e
      have hkr := rchX_bit hw e2
      refine (h1 k hk).2.1.trans ?_
      unfold rchX at e2 ⊢
      rw [if_pos hkr]
      split at e2
      · rename_i et
        rw [if_pos et]
        exact R_sub hw hkr e2 11
      · rw [Nat.zero_testBit] at e2; cases e2
    · exact subB_0
  refine ⟨⟨fun q hq => ?_, fun q hq => ?_, fun q ha hb => ?_⟩, fun q hq hb => ?_⟩
  · by_cases e : q = t
    · subst e
      rw [updF_e rfl]
      exact ⟨hx4, hxR, (h1 q hq).2.2.trans hup⟩
    · rw [updF_n e]
      exact h1 q hq
  · rw [updF_n (by omega)]
    exact h2 q hq
  · by_cases e : q = t
    · subst e
      rw [updF_e rfl]
      exact (h3 q ha hb).trans hup
    · rw [updF_n e]
      exact h3 q ha hb
  · rw [updF_e rfl]
    by_cases e : q = k
    · subst e
      have e2 := h3 t (Nat.le_refl _) ht q hb
      rw [hx, if_pos e2]
      exact (h1 q hk).2.2.trans subB_r
    · exact (h4 q (by omega) hb).trans hup
theorem far_t {ρ : TR} {f : Nat → Nat} {r t : Nat} (ht : t < 12) (hw : ρ.1 ≤ 12) (h : farK ρ f r t 12) : farI ρ f r (t + 1) := by
  obtain ⟨⟨h1, h2, h3⟩, h4⟩ := h
  refine ⟨h1, fun q hq => ?_, fun q ha hb => h3 q (by omega) hb⟩
  by_cases e : q = t
  · subst e
    have h5 := h3 q (Nat.le_refl _) ht
    unfold rchX at h5 h4 ⊢
    by_cases er : q < ρ.1
    · rw [if_pos er] at h5 h4 ⊢
      rw [rch_succ]
      refine subB_or h5 (folA_sub _ (fun k hk z => ?_))
      have h6 := h4 k (by omega) z
      unfold setK at h6
      rw [if_pos hk] at h6
      exact h6
    · rw [if_neg er]
      exact subB_0
  · exact h2 q (by omega)
theorem far_r {ρ : TR} {f : Nat → Nat} {r : Nat} (h : farI ρ f r 12) : farI ρ f (r + 1) 0 := ⟨h.1, fun q hq => absurd hq (Nat.not_lt_zero _), fun q _ hq => h.2.1 q hq⟩
theorem far_end {ρ : TR} (hw : ρ.1 ≤ 12) {f : Nat → Nat} (h : farI ρ f 12 0) : ∀ q, q < 12 → f q = rchX ρ q 11 := by
  intro q hq
  refine subB_eq (h.1 q hq).2.1 ?_
  have h1 := h.2.2 q (Nat.zero_le _) hq
  unfold rchX at h1 ⊢
  split
  · rename_i e
    rw [if_pos e, rch_12 hw] at h1
    exact h1
  · exact subB_0
theorem rchX_lt {ρ : TR} (hw : ρ.1 ≤ 12) (t s : Nat) : rchX ρ t s < 4096 := by
  unfold rchX
  split
  · exact rch_lt hw t s
  · decide
/-- those that reach themselves, among the first t -/
def slfX (ρ : TR) : Nat → Nat
  | 0 => 0
  | t + 1 => if (rchX ρ t 11).testBit t = true then slfX ρ t ||| 2 ^ t else slfX ρ t
theorem slfX_lt (ρ : TR) : ∀ t, t ≤ 12 → slfX ρ t < 4096
  | 0, _ => (by decide : 0 < 4096)
  | t + 1, h => by
    have := slfX_lt ρ t (by omega)
    unfold slfX
    split
    · exact or_lt12 this (p12 (by omega))
    · exact this
theorem slfX_eq {ρ : TR} : ∀ t, t ≤ ρ.1 → slfX ρ t = slfN ρ t
  | 0, _ => rfl
  | t + 1, h => by
    have h1 := slfX_eq (ρ := ρ) t (by omega)
    show (if (rchX ρ t 11).testBit t = true then slfX ρ t ||| 2 ^ t else slfX ρ t) = (if slfB ρ t = true then slfN ρ t ||| 2 ^ t else slfN ρ t)
    unfold rchX slfB
    rw [show (if t < ρ.1 then rch ρ t 11 else 0) = rch ρ t 11 from if_pos (by omega), h1]
theorem slfX_more {ρ : TR} : ∀ d, slfX ρ (ρ.1 + d) = slfX ρ ρ.1
  | 0 => rfl
  | d + 1 => by
    show (if (rchX ρ (ρ.1 + d) 11).testBit (ρ.1 + d) = true then _ else slfX ρ (ρ.1 + d)) = _
    have e : rchX ρ (ρ.1 + d) 11 = 0 := if_neg (by omega)
    rw [e, Nat.zero_testBit, if_neg (by decide), slfX_more d]
theorem slfX_12 {ρ : TR} (hw : ρ.1 ≤ 12) : slfX ρ 12 = slfN ρ ρ.1 := by
  have h := slfX_more (ρ := ρ) (12 - ρ.1)
  rw [show ρ.1 + (12 - ρ.1) = 12 by omega] at h
  rw [h, slfX_eq ρ.1 (Nat.le_refl _)]
theorem sw_out411 {x : Int32} (h : ¬ wi x 12) : x.toInt < 4 ∨ 11 < x.toInt := by
  have h1 : ¬ (0 ≤ x.toInt ∧ x.toInt < (12 : Nat)) := fun q => h ((in_iff (by decide)).mp q)
  omega
set_option maxHeartbeats 4000000 in
set_option maxRecDepth 100000 in
theorem c_X9_laysSets (l : Launch) (G : GG) (a : Nat → Nat) (v : Nat → Int32) (f1 : Nat → Int32) (f37 : Nat → Int32) (f38 : Nat → Int32) (ρ : TR) (hR : rMR f1 ρ) (hw : wfR ρ) : MT l G yX9_laysSets cX9_laysSets 4 none 2 0 0 [.ref (a 0)] [(a 0, mO a v), (a 1, aI G 800 f1), (a 37, aI G 12 f37), (a 38, aI G 12 f38)] (fun v9 ws9 => ∃ (g37 : Nat → Int32) (g38 : Nat → Int32), v9 = none ∧ ws9 = [(a 0, mO a v), (a 1, aI G 800 f1), (a 37, aI G 12 g37), (a 38, aI G 12 g38)] ∧ (∀ q, q < 12 → g37 q = nI (setK ρ q ρ.1)) ∧ (∀ q, q < 12 → g38 q = nI (rchX ρ q 11))) := by
  refine MT.of RX9 [(0, .ref (a 0))] (by decide +kernel) rfl rfl (Nat.le_of_ble_eq_true rfl) (fun κ C E hl9 hG9 hnm9 => ?_)
  subst hl9; subst hG9
  have hn12 := hw.1
  refine w_iconst (nx := 1) C (nI 0) dX9_laysSets_0 rfl (by decide) ?_
  refine w_istore_n (nx := 2) (lo2 := [(1, .int (nI 0)), (0, .ref (a 0))]) C dX9_laysSets_1 rfl rfl (by decide) rfl ?_
  have LP_1 : ∀ (N9_2 : Nat) (t : Nat) (g37 : Nat → Int32) (g38 : Nat → Int32), (t ≤ 12) → (∀ q, q < t → g37 q = nI (setK ρ q ρ.1)) → (∀ q, q < t → g38 q = nI (setK ρ q ρ.1)) → (12 - t) < N9_2 → WW κ 0 0 [(a 0, mO a v), (a 1, aI (kG κ) 800 f1), (a 37, aI (kG κ) 12 g37), (a 38, aI (kG κ) 12 g38)] 2 [(0, .ref (a 0)), (1, .int (nI t))] [] := by
    intro N9_2
    induction N9_2 with
    | zero => intro t g37 g38 ht hs hf hm9_2; exact absurd hm9_2 (Nat.not_lt_zero _)
    | succ N9_2 ih9_2 =>
      intro t g37 g38 ht hs hf hm9_2
      refine w_iload_n (nx := 3) C 1 dX9_laysSets_2 rfl rfl rfl ?_
      refine w_bipush (nx := 5) C (nI 12) dX9_laysSets_3 rfl (by decide) ?_
      refine n_icmp_ge (tg := 130) (nx := 8) C dX9_laysSets_5 rfl rfl (by omega) (by omega) (fun h_2 => ?_) (fun h_2 => ?_)
      · refine w_iconst (nx := 131) C (nI 0) dX9_laysSets_130 rfl (by decide) ?_
        refine w_istore_n (nx := 132) (lo2 := [(1, .int (nI 0)), (0, .ref (a 0))]) C dX9_laysSets_131 rfl rfl (by decide) rfl ?_
        have LP_3 : ∀ (N9_132 : Nat) (r9 : Nat) (ff : Nat → Nat) (h38 : Nat → Int32), (r9 ≤ 12) → (farI ρ ff r9 0) → (∀ q, q < 12 → h38 q = nI (ff q)) → (12 - r9) < N9_132 → WW κ 0 0 [(a 0, mO a v), (a 1, aI (kG κ) 800 f1), (a 37, aI (kG κ) 12 g37), (a 38, aI (kG κ) 12 h38)] 132 [(0, .ref (a 0)), (1, .int (nI r9))] [] := by
          intro N9_132
          induction N9_132 with
          | zero => intro r9 ff h38 hr9 hfi hff hm9_132; exact absurd hm9_132 (Nat.not_lt_zero _)
          | succ N9_132 ih9_132 =>
            intro r9 ff h38 hr9 hfi hff hm9_132
            refine w_iload_n (nx := 133) C 1 dX9_laysSets_132 rfl rfl rfl ?_
            refine w_bipush (nx := 135) C (nI 12) dX9_laysSets_133 rfl (by decide) ?_
            refine n_icmp_ge (tg := 205) (nx := 138) C dX9_laysSets_135 rfl rfl (by omega) (by omega) (fun h_4 => ?_) (fun h_4 => ?_)
            · have hr12 : r9 = 12 := by omega
              exact w_vret C E dX9_laysSets_205 rfl (Nat.le_refl _) (Nat.le_refl _) ⟨_, _, rfl, rfl, (fun q hq => hs q (by omega)), (fun q hq => (hff q hq).trans (congrArg nI (far_end hn12 (hr12 ▸ hfi) q hq)))⟩
            · refine w_iconst (nx := 139) C (nI 0) dX9_laysSets_138 rfl (by decide) ?_
              refine w_istore_n (nx := 140) (lo2 := [(2, .int (nI 0)), (0, .ref (a 0)), (1, .int (nI r9))]) C dX9_laysSets_139 rfl rfl (by decide) rfl ?_
              have LP_5 : ∀ (N9_140 : Nat) (t : Nat) (ff : Nat → Nat) (h38 : Nat → Int32), (t ≤ 12) → (farI ρ ff r9 t) → (∀ q, q < 12 → h38 q = nI (ff q)) → (12 - t) < N9_140 → WW κ 0 0 [(a 0, mO a v), (a 1, aI (kG κ) 800 f1), (a 37, aI (kG κ) 12 g37), (a 38, aI (kG κ) 12 h38)] 140 [(0, .ref (a 0)), (1, .int (nI r9)), (2, .int (nI t))] [] := by
                intro N9_140
                induction N9_140 with
                | zero => intro t ff h38 ht hfi hff hm9_140; exact absurd hm9_140 (Nat.not_lt_zero _)
                | succ N9_140 ih9_140 =>
                  intro t ff h38 ht hfi hff hm9_140
                  refine w_iload_n (nx := 141) C 2 dX9_laysSets_140 rfl rfl rfl ?_
                  refine w_bipush (nx := 143) C (nI 12) dX9_laysSets_141 rfl (by decide) ?_
                  refine n_icmp_ge (tg := 199) (nx := 146) C dX9_laysSets_143 rfl rfl (by omega) (by omega) (fun h_6 => ?_) (fun h_6 => ?_)
                  · have ht12 : t = 12 := by omega
                    refine w_iinc (nx := 202) (lo2 := [(1, .int (nI (r9 + 1))), (0, .ref (a 0)), (2, .int (nI t))]) C (nI (r9 + 1)) 1 dX9_laysSets_199 rfl rfl (nI_add _ _) (by decide) rfl ?_
                    refine w_goto (nx := 132) C dX9_laysSets_202 rfl ?_
                    refine ww_lo [1, 0] (lo' := [(0, .ref (a 0)), (1, .int (nI (r9 + 1)))]) rfl ?_
                    exact ih9_132 (r9 + 1) ff h38 (by omega) (far_r (ht12 ▸ hfi)) (hff) (by omega)
                  · refine w_iconst (nx := 147) C (nI 0) dX9_laysSets_146 rfl (by decide) ?_
                    refine w_istore_n (nx := 148) (lo2 := [(3, .int (nI 0)), (0, .ref (a 0)), (1, .int (nI r9)), (2, .int (nI t))]) C dX9_laysSets_147 rfl rfl (by decide) rfl ?_
                    have LP_7 : ∀ (N9_148 : Nat) (k : Nat) (ff : Nat → Nat) (h38 : Nat → Int32), (k ≤ 12) → (farK ρ ff r9 t k) → (∀ q, q < 12 → h38 q = nI (ff q)) → (12 - k) < N9_148 → WW κ 0 0 [(a 0, mO a v), (a 1, aI (kG κ) 800 f1), (a 37, aI (kG κ) 12 g37), (a 38, aI (kG κ) 12 h38)] 148 [(0, .ref (a 0)), (1, .int (nI r9)), (2, .int (nI t)), (3, .int (nI k))] [] := by
                      intro N9_148
                      induction N9_148 with
                      | zero => intro k ff h38 hk hfk hff hm9_148; exact absurd hm9_148 (Nat.not_lt_zero _)
                      | succ N9_148 ih9_148 =>
                        intro k ff h38 hk hfk hff hm9_148
                        refine w_iload_n (nx := 149) C 3 dX9_laysSets_148 rfl rfl rfl ?_
                        refine w_bipush (nx := 151) C (nI 12) dX9_laysSets_149 rfl (by decide) ?_
                        refine n_icmp_ge (tg := 193) (nx := 154) C dX9_laysSets_151 rfl rfl (by omega) (by omega) (fun h_8 => ?_) (fun h_8 => ?_)
                        · have hk12 : k = 12 := by omega
                          refine w_iinc (nx := 196) (lo2 := [(2, .int (nI (t + 1))), (0, .ref (a 0)), (1, .int (nI r9)), (3, .int (nI k))]) C (nI (t + 1)) 2 dX9_laysSets_193 rfl rfl (nI_add _ _) (by decide) rfl ?_
                          refine w_goto (nx := 140) C dX9_laysSets_196 rfl ?_
                          refine ww_lo [1, 2, 0] (lo' := [(0, .ref (a 0)), (1, .int (nI r9)), (2, .int (nI (t + 1)))]) rfl ?_
                          exact ih9_140 (t + 1) ff h38 (by omega) (far_t (by omega) hn12 (hk12 ▸ hfk)) (hff) (by omega)
                        · have hft := (hfk.1.1 t (by omega)).1
                          have hb9 := bit12 (ff t) k
                          have hb8 : (if (ff t).testBit k then 1 else 0) < 2 := by split <;> decide
                          refine w_aload_n (nx := 155) C 0 dX9_laysSets_154 rfl rfl rfl ?_
                          refine w_getM (nx := 158) C (.ref (a 38)) 0 38 dX9_laysSets_155 rfl wl_X9_84 rfl (by decide) rfl (mg_38 _ _) ?_
                          refine w_iload_n (nx := 159) C 2 dX9_laysSets_158 rfl rfl rfl ?_
                          refine w_dup2 (nx := 160) C dX9_laysSets_159 rfl rfl rfl ?_
                          refine w_iald (nx := 161) C (nI (ff t)) 3 t dX9_laysSets_160 rfl rfl (by decide) rfl (by omega) (hff t (by omega)) ?_
                          refine w_aload_n (nx := 162) C 0 dX9_laysSets_161 rfl rfl rfl ?_
                          refine w_getM (nx := 165) C (.ref (a 38)) 0 38 dX9_laysSets_162 rfl wl_X9_84 rfl (by decide) rfl (mg_38 _ _) ?_
                          refine w_iload_n (nx := 166) C 2 dX9_laysSets_165 rfl rfl rfl ?_
                          refine w_iald (nx := 167) C (nI (ff t)) 3 t dX9_laysSets_166 rfl rfl (by decide) rfl (by omega) (hff t (by omega)) ?_
                          refine w_iload_n (nx := 168) C 3 dX9_laysSets_167 rfl rfl rfl ?_
                          refine w_ishr (nx := 169) C (nI (ff t / 2 ^ k)) dX9_laysSets_168 rfl (shr12 hft (by omega)) ?_
                          refine w_iconst (nx := 170) C (nI 1) dX9_laysSets_169 rfl (by decide) ?_
                          refine w_iand (nx := 171) C (nI (if (ff t).testBit k then 1 else 0)) dX9_laysSets_170 rfl ((nI_and _ _).trans (congrArg nI (bit12 (ff t) k))) ?_
                          refine w_iconst (nx := 172) C (nI 1) dX9_laysSets_171 rfl (by decide) ?_
                          refine n_icmp_ne (tg := 184) (nx := 175) C dX9_laysSets_172 rfl rfl (by omega) (by omega) (fun h_9 => ?_) (fun h_9 => ?_)
                          · have hbt : ¬ (ff t).testBit k = true := fun z => by rw [if_pos z] at h_9; exact absurd rfl h_9
                            refine w_iconst (nx := 185) C (nI 0) dX9_laysSets_184 rfl (by decide) ?_
                            refine w_ior (nx := 186) C (nI (ff t ||| (if (ff t).testBit k = true then ff k else 0))) dX9_laysSets_185 rfl ((nI_or _ _).trans (by rw [if_neg hbt])) ?_
                            refine w_iast (nx := 187) (ws2 := [(a 0, mO a v), (a 1, aI (kG κ) 800 f1), (a 37, aI (kG κ) 12 g37), (a 38, aI (kG κ) 12 (upd h38 t (nI (ff t ||| (if (ff t).testBit k = true then ff k else 0)))))]) C 3 t dX9_laysSets_186 rfl rfl (by decide) rfl (by omega) rfl ?_
                            refine w_iinc (nx := 190) (lo2 := [(3, .int (nI (k + 1))), (0, .ref (a 0)), (1, .int (nI r9)), (2, .int (nI t))]) C (nI (k + 1)) 3 dX9_laysSets_187 rfl rfl (nI_add _ _) (by decide) rfl ?_
                            refine w_goto (nx := 148) C dX9_laysSets_190 rfl ?_
                            refine ww_lo [1, 2, 3, 0] (lo' := [(0, .ref (a 0)), (1, .int (nI r9)), (2, .int (nI t)), (3, .int (nI (k + 1)))]) rfl ?_
                            exact ih9_148 (k + 1) (updF ff t (ff t ||| (if (ff t).testBit k = true then ff k else 0))) (upd h38 t (nI (ff t ||| (if (ff t).testBit k = true then ff k else 0)))) (by omega) (far_k hn12 (by omega) (by omega) hfk _ rfl) (fun q hq => by
                                  by_cases e9 : q = t
                                  · rw [upd_e e9, updF_e e9]
                                  · rw [upd_n e9, updF_n e9]; exact hff q hq) (by omega)
                          · have hbt : (ff t).testBit k = true := Classical.byContradiction fun z => by rw [if_neg z] at h_9; exact absurd h_9 (by decide)
                            refine w_aload_n (nx := 176) C 0 dX9_laysSets_175 rfl rfl rfl ?_
                            refine w_getM (nx := 179) C (.ref (a 38)) 0 38 dX9_laysSets_176 rfl wl_X9_84 rfl (by decide) rfl (mg_38 _ _) ?_
                            refine w_iload_n (nx := 180) C 3 dX9_laysSets_179 rfl rfl rfl ?_
                            refine w_iald (nx := 181) C (nI (ff k)) 3 k dX9_laysSets_180 rfl rfl (by decide) rfl (by omega) (hff k (by omega)) ?_
                            refine w_goto (nx := 185) C dX9_laysSets_181 rfl ?_
                            refine w_ior (nx := 186) C (nI (ff t ||| (if (ff t).testBit k = true then ff k else 0))) dX9_laysSets_185 rfl ((nI_or _ _).trans (by rw [if_pos hbt])) ?_
                            refine w_iast (nx := 187) (ws2 := [(a 0, mO a v), (a 1, aI (kG κ) 800 f1), (a 37, aI (kG κ) 12 g37), (a 38, aI (kG κ) 12 (upd h38 t (nI (ff t ||| (if (ff t).testBit k = true then ff k else 0)))))]) C 3 t dX9_laysSets_186 rfl rfl (by decide) rfl (by omega) rfl ?_
                            refine w_iinc (nx := 190) (lo2 := [(3, .int (nI (k + 1))), (0, .ref (a 0)), (1, .int (nI r9)), (2, .int (nI t))]) C (nI (k + 1)) 3 dX9_laysSets_187 rfl rfl (nI_add _ _) (by decide) rfl ?_
                            refine w_goto (nx := 148) C dX9_laysSets_190 rfl ?_
                            refine ww_lo [1, 2, 3, 0] (lo' := [(0, .ref (a 0)), (1, .int (nI r9)), (2, .int (nI t)), (3, .int (nI (k + 1)))]) rfl ?_
                            exact ih9_148 (k + 1) (updF ff t (ff t ||| (if (ff t).testBit k = true then ff k else 0))) (upd h38 t (nI (ff t ||| (if (ff t).testBit k = true then ff k else 0)))) (by omega) (far_k hn12 (by omega) (by omega) hfk _ rfl) (fun q hq => by
                                  by_cases e9 : q = t
                                  · rw [upd_e e9, updF_e e9]
                                  · rw [upd_n e9, updF_n e9]; exact hff q hq) (by omega)
                    refine ww_lo [1, 2, 3, 0] (lo' := [(0, .ref (a 0)), (1, .int (nI r9)), (2, .int (nI t)), (3, .int (nI 0))]) rfl ?_
                    exact LP_7 _ 0 ff h38 (Nat.zero_le _) (⟨hfi, fun q hq => absurd hq (Nat.not_lt_zero _)⟩) (hff) (Nat.lt_succ_self _)
              refine ww_lo [1, 2, 0] (lo' := [(0, .ref (a 0)), (1, .int (nI r9)), (2, .int (nI 0))]) rfl ?_
              exact LP_5 _ 0 ff h38 (Nat.zero_le _) (hfi) (hff) (Nat.lt_succ_self _)
        refine ww_lo [1, 0] (lo' := [(0, .ref (a 0)), (1, .int (nI 0))]) rfl ?_
        exact LP_3 _ 0 (fun q => setK ρ q ρ.1) g38 (Nat.zero_le _) (far_0 hn12 (fun _ _ => rfl)) (fun q hq => hf q (by omega)) (Nat.lt_succ_self _)
      · refine w_aload_n (nx := 9) C 0 dX9_laysSets_8 rfl rfl rfl ?_
        refine w_getM (nx := 12) C (.ref (a 37)) 0 37 dX9_laysSets_9 rfl wl_X9_81 rfl (by decide) rfl (mg_37 _ _) ?_
        refine w_iload_n (nx := 13) C 1 dX9_laysSets_12 rfl rfl rfl ?_
        refine w_iconst (nx := 14) C (nI 0) dX9_laysSets_13 rfl (by decide) ?_
        refine w_iast (nx := 15) (ws2 := [(a 0, mO a v), (a 1, aI (kG κ) 800 f1), (a 37, aI (kG κ) 12 (upd g37 t (nI 0))), (a 38, aI (kG κ) 12 g38)]) C 2 t dX9_laysSets_14 rfl rfl (by decide) rfl (by omega) rfl ?_
        refine w_iconst (nx := 16) C (nI 0) dX9_laysSets_15 rfl (by decide) ?_
        refine w_istore_n (nx := 17) (lo2 := [(2, .int (nI 0)), (0, .ref (a 0)), (1, .int (nI t))]) C dX9_laysSets_16 rfl rfl (by decide) rfl ?_
        have LP_10 : ∀ (N9_17 : Nat) (k : Nat) (p37 : Nat → Int32), (k ≤ ρ.1) → (∀ q, q < t → p37 q = nI (setK ρ q ρ.1)) → (p37 t = nI (setK ρ t k)) → (ρ.1 - k) < N9_17 → WW κ 0 0 [(a 0, mO a v), (a 1, aI (kG κ) 800 f1), (a 37, aI (kG κ) 12 p37), (a 38, aI (kG κ) 12 g38)] 17 [(0, .ref (a 0)), (1, .int (nI t)), (2, .int (nI k))] [] := by
          intro N9_17
          induction N9_17 with
          | zero => intro k p37 hk hs1 hs2 hm9_17; exact absurd hm9_17 (Nat.not_lt_zero _)
          | succ N9_17 ih9_17 =>
            intro k p37 hk hs1 hs2 hm9_17
            refine w_iload_n (nx := 18) C 2 dX9_laysSets_17 rfl rfl rfl ?_
            refine w_aload_n (nx := 19) C 0 dX9_laysSets_18 rfl rfl rfl ?_
            refine w_getM (nx := 22) C (.ref (a 1)) 0 1 dX9_laysSets_19 rfl wl_X9_7 rfl (by decide) rfl (mg_1 _ _) ?_
            refine w_bipush (nx := 24) C (nI 102) dX9_laysSets_22 rfl (by decide) ?_
            refine w_iald (nx := 25) C (nI ρ.1) 1 102 dX9_laysSets_24 rfl rfl (by decide) rfl (by omega) hR.1 ?_
            refine n_icmp_ge (tg := 112) (nx := 28) C dX9_laysSets_25 rfl rfl (by omega) (by omega) (fun h_11 => ?_) (fun h_11 => ?_)
            · have hkm : k = ρ.1 := by omega
              refine w_aload_n (nx := 113) C 0 dX9_laysSets_112 rfl rfl rfl ?_
              refine w_getM (nx := 116) C (.ref (a 38)) 0 38 dX9_laysSets_113 rfl wl_X9_84 rfl (by decide) rfl (mg_38 _ _) ?_
              refine w_iload_n (nx := 117) C 1 dX9_laysSets_116 rfl rfl rfl ?_
              refine w_aload_n (nx := 118) C 0 dX9_laysSets_117 rfl rfl rfl ?_
              refine w_getM (nx := 121) C (.ref (a 37)) 0 37 dX9_laysSets_118 rfl wl_X9_81 rfl (by decide) rfl (mg_37 _ _) ?_
              refine w_iload_n (nx := 122) C 1 dX9_laysSets_121 rfl rfl rfl ?_
              refine w_iald (nx := 123) C (nI (setK ρ t ρ.1)) 2 t dX9_laysSets_122 rfl rfl (by decide) rfl (by omega) (by rw [hs2]; exact congrArg (fun z => nI (setK ρ t z)) (by omega)) ?_
              refine w_iast (nx := 124) (ws2 := [(a 0, mO a v), (a 1, aI (kG κ) 800 f1), (a 37, aI (kG κ) 12 p37), (a 38, aI (kG κ) 12 (upd g38 t (nI (setK ρ t ρ.1))))]) C 3 t dX9_laysSets_123 rfl rfl (by decide) rfl (by omega) rfl ?_
              refine w_iinc (nx := 127) (lo2 := [(1, .int (nI (t + 1))), (0, .ref (a 0)), (2, .int (nI k))]) C (nI (t + 1)) 1 dX9_laysSets_124 rfl rfl (nI_add _ _) (by decide) rfl ?_
              refine w_goto (nx := 2) C dX9_laysSets_127 rfl ?_
              refine ww_lo [1, 0] (lo' := [(0, .ref (a 0)), (1, .int (nI (t + 1)))]) rfl ?_
              exact ih9_2 (t + 1) p37 (upd g38 t (nI (setK ρ t ρ.1))) (by first | assumption | omega) (fun q hq => (Nat.lt_or_ge q t).elim (fun z => hs1 q z) (fun z => by have e9 : q = t := (by omega); subst e9; rw [hs2]; exact congrArg (fun z => nI (setK ρ q z)) hkm)) (fun q hq => (Nat.lt_or_ge q t).elim (fun z => (upd_n (by omega)).trans (hf q z)) (fun z => by have e9 : q = t := (by omega); subst e9; exact upd_e rfl)) (by omega)
            · have hk9 := hw.2 k (by omega)
              refine w_iload_n (nx := 29) C 1 dX9_laysSets_28 rfl rfl rfl ?_
              refine w_aload_n (nx := 30) C 0 dX9_laysSets_29 rfl rfl rfl ?_
              refine w_getM (nx := 33) C (.ref (a 1)) 0 1 dX9_laysSets_30 rfl wl_X9_7 rfl (by decide) rfl (mg_1 _ _) ?_
              refine w_bipush (nx := 35) C (nI 102) dX9_laysSets_33 rfl (by decide) ?_
              refine w_iald (nx := 36) C (nI ρ.1) 1 102 dX9_laysSets_35 rfl rfl (by decide) rfl (by omega) hR.1 ?_
              refine n_icmp_ge (tg := 84) (nx := 39) C dX9_laysSets_36 rfl rfl (by omega) (by omega) (fun h_12 => ?_) (fun h_12 => ?_)
              · have hof : ¬ (t < ρ.1 ∧ ρ.2 k 0 = ρ.2 t 5 ∧ ρ.2 k 1 + 1 = ρ.2 t 4) := by omega
                refine w_iconst (nx := 85) C (nI 0) dX9_laysSets_84 rfl (by decide) ?_
                refine w_istore_n (nx := 86) (lo2 := [(3, .int (nI 0)), (0, .ref (a 0)), (1, .int (nI t)), (2, .int (nI k))]) C dX9_laysSets_85 rfl rfl (by decide) rfl ?_
                refine w_aload_n (nx := 87) C 1 dX9_laysSets_86 rfl rfl rfl ?_
                refine w_getM (nx := 90) C (.ref (a 37)) 0 37 dX9_laysSets_87 rfl wl_X9_81 rfl (by decide) rfl (mg_37 _ _) ?_
                refine w_iload_n (nx := 91) C 2 dX9_laysSets_90 rfl rfl rfl ?_
                refine w_dup2 (nx := 92) C dX9_laysSets_91 rfl rfl rfl ?_
                refine w_iald (nx := 93) C (nI (setK ρ t k)) 2 t dX9_laysSets_92 rfl rfl (by decide) rfl (by omega) hs2 ?_
                refine w_iload_n (nx := 94) C 0 dX9_laysSets_93 rfl rfl rfl ?_
                refine w_if_eq (tg := 103) (nx := 97) C dX9_laysSets_94 rfl rfl (fun _ => ?_) (fun q9 => absurd (by decide) q9)
                refine w_iconst (nx := 104) C (nI 0) dX9_laysSets_103 rfl (by decide) ?_
                refine w_ior (nx := 105) C (nI (setK ρ t (k + 1))) dX9_laysSets_104 rfl ((nI_or _ _).trans (congrArg nI ((Nat.or_zero _).trans (setK_off hof).symm))) ?_
                refine w_iast (nx := 106) (ws2 := [(a 0, mO a v), (a 1, aI (kG κ) 800 f1), (a 37, aI (kG κ) 12 (upd p37 t (nI (setK ρ t (k + 1))))), (a 38, aI (kG κ) 12 g38)]) C 2 t dX9_laysSets_105 rfl rfl (by decide) rfl (by omega) rfl ?_
                refine w_iinc (nx := 109) (lo2 := [(2, .int (nI (k + 1))), (3, .int (nI 0)), (0, .ref (a 0)), (1, .int (nI t))]) C (nI (k + 1)) 3 dX9_laysSets_106 rfl rfl (nI_add _ _) (by decide) rfl ?_
                refine w_goto (nx := 17) C dX9_laysSets_109 rfl ?_
                refine ww_lo [2, 3, 0] (lo' := [(0, .ref (a 0)), (1, .int (nI t)), (2, .int (nI (k + 1)))]) rfl ?_
                exact ih9_17 (k + 1) (upd p37 t (nI (setK ρ t (k + 1)))) (by first | assumption | omega) (fun q hq => (upd_n (by omega)).trans (hs1 q hq)) (upd_e rfl) (by omega)
              · have ht9 : t < ρ.1 := by omega
                have hti := hw.2 t ht9
                refine w_aload_n (nx := 40) C 0 dX9_laysSets_39 rfl rfl rfl ?_
                refine w_iload_n (nx := 41) C 1 dX9_laysSets_40 rfl rfl rfl ?_
                refine w_iconst (nx := 42) C (nI 4) dX9_laysSets_41 rfl (by decide) ?_
                refine w_callV (nx := 45) (wr := [(a 37, aI (kG κ) 12 p37), (a 38, aI (kG κ) 12 g38)]) (rest := []) C mi_X9_of (c_X9_of _ _ a v f1 t 4 (nI (ρ.2 t 4)) (by first | assumption | omega) (by first | assumption | omega) (hR.2.1 t (by omega) 4 (by decide))) 0 dX9_laysSets_42 rfl wl_X9_146 rfl rfl rfl (pm_sel [0, 1, 2, 3] 4 (by decide +kernel) rfl rfl) rfl rfl (Nat.le_of_ble_eq_true rfl) (Nat.le_of_ble_eq_true rfl) (Nat.le_of_ble_eq_true rfl) (Nat.zero_le _) (Nat.zero_le _) (fun v9 w9 R_14 => ?_)
                obtain ⟨rfl, rfl⟩ := R_14
                show WW κ 0 0 [(a 0, mO a v), (a 1, aI (kG κ) 800 f1), (a 37, aI (kG κ) 12 p37), (a 38, aI (kG κ) 12 g38)] 45 [(0, .ref (a 0)), (1, .int (nI t)), (2, .int (nI k))] [.int (nI (ρ.2 t 4))]
                refine n_if_le (tg := 84) (nx := 48) C dX9_laysSets_45 rfl rfl (by omega) (fun h_15 => ?_) (fun h_15 => ?_)
                · have hof : ¬ (t < ρ.1 ∧ ρ.2 k 0 = ρ.2 t 5 ∧ ρ.2 k 1 + 1 = ρ.2 t 4) := by omega
                  refine w_iconst (nx := 85) C (nI 0) dX9_laysSets_84 rfl (by decide) ?_
                  refine w_istore_n (nx := 86) (lo2 := [(3, .int (nI 0)), (0, .ref (a 0)), (1, .int (nI t)), (2, .int (nI k))]) C dX9_laysSets_85 rfl rfl (by decide) rfl ?_
                  refine w_aload_n (nx := 87) C 1 dX9_laysSets_86 rfl rfl rfl ?_
                  refine w_getM (nx := 90) C (.ref (a 37)) 0 37 dX9_laysSets_87 rfl wl_X9_81 rfl (by decide) rfl (mg_37 _ _) ?_
                  refine w_iload_n (nx := 91) C 2 dX9_laysSets_90 rfl rfl rfl ?_
                  refine w_dup2 (nx := 92) C dX9_laysSets_91 rfl rfl rfl ?_
                  refine w_iald (nx := 93) C (nI (setK ρ t k)) 2 t dX9_laysSets_92 rfl rfl (by decide) rfl (by omega) hs2 ?_
                  refine w_iload_n (nx := 94) C 0 dX9_laysSets_93 rfl rfl rfl ?_
                  refine w_if_eq (tg := 103) (nx := 97) C dX9_laysSets_94 rfl rfl (fun _ => ?_) (fun q9 => absurd (by decide) q9)
                  refine w_iconst (nx := 104) C (nI 0) dX9_laysSets_103 rfl (by decide) ?_
                  refine w_ior (nx := 105) C (nI (setK ρ t (k + 1))) dX9_laysSets_104 rfl ((nI_or _ _).trans (congrArg nI ((Nat.or_zero _).trans (setK_off hof).symm))) ?_
                  refine w_iast (nx := 106) (ws2 := [(a 0, mO a v), (a 1, aI (kG κ) 800 f1), (a 37, aI (kG κ) 12 (upd p37 t (nI (setK ρ t (k + 1))))), (a 38, aI (kG κ) 12 g38)]) C 2 t dX9_laysSets_105 rfl rfl (by decide) rfl (by omega) rfl ?_
                  refine w_iinc (nx := 109) (lo2 := [(2, .int (nI (k + 1))), (3, .int (nI 0)), (0, .ref (a 0)), (1, .int (nI t))]) C (nI (k + 1)) 3 dX9_laysSets_106 rfl rfl (nI_add _ _) (by decide) rfl ?_
                  refine w_goto (nx := 17) C dX9_laysSets_109 rfl ?_
                  refine ww_lo [2, 3, 0] (lo' := [(0, .ref (a 0)), (1, .int (nI t)), (2, .int (nI (k + 1)))]) rfl ?_
                  exact ih9_17 (k + 1) (upd p37 t (nI (setK ρ t (k + 1)))) (by first | assumption | omega) (fun q hq => (upd_n (by omega)).trans (hs1 q hq)) (upd_e rfl) (by omega)
                · refine w_aload_n (nx := 49) C 0 dX9_laysSets_48 rfl rfl rfl ?_
                  refine w_iload_n (nx := 50) C 2 dX9_laysSets_49 rfl rfl rfl ?_
                  refine w_iconst (nx := 51) C (nI 0) dX9_laysSets_50 rfl (by decide) ?_
                  refine w_callV (nx := 54) (wr := [(a 37, aI (kG κ) 12 p37), (a 38, aI (kG κ) 12 g38)]) (rest := []) C mi_X9_of (c_X9_of _ _ a v f1 k 0 (nI (ρ.2 k 0)) (by first | assumption | omega) (by first | assumption | omega) (hR.2.1 k (by omega) 0 (by decide))) 0 dX9_laysSets_51 rfl wl_X9_146 rfl rfl rfl (pm_sel [0, 1, 2, 3] 4 (by decide +kernel) rfl rfl) rfl rfl (Nat.le_of_ble_eq_true rfl) (Nat.le_of_ble_eq_true rfl) (Nat.le_of_ble_eq_true rfl) (Nat.zero_le _) (Nat.zero_le _) (fun v9 w9 R_17 => ?_)
                  obtain ⟨rfl, rfl⟩ := R_17
                  show WW κ 0 0 [(a 0, mO a v), (a 1, aI (kG κ) 800 f1), (a 37, aI (kG κ) 12 p37), (a 38, aI (kG κ) 12 g38)] 54 [(0, .ref (a 0)), (1, .int (nI t)), (2, .int (nI k))] [.int (nI (ρ.2 k 0))]
                  refine w_aload_n (nx := 55) C 0 dX9_laysSets_54 rfl rfl rfl ?_
                  refine w_iload_n (nx := 56) C 1 dX9_laysSets_55 rfl rfl rfl ?_
                  refine w_iconst (nx := 57) C (nI 5) dX9_laysSets_56 rfl (by decide) ?_
                  refine w_callV (nx := 60) (wr := [(a 37, aI (kG κ) 12 p37), (a 38, aI (kG κ) 12 g38)]) (rest := [.int (nI (ρ.2 k 0))]) C mi_X9_of (c_X9_of _ _ a v f1 t 5 (nI (ρ.2 t 5)) (by first | assumption | omega) (by first | assumption | omega) (hR.2.1 t (by omega) 5 (by decide))) 0 dX9_laysSets_57 rfl wl_X9_146 rfl rfl rfl (pm_sel [0, 1, 2, 3] 4 (by decide +kernel) rfl rfl) rfl rfl (Nat.le_of_ble_eq_true rfl) (Nat.le_of_ble_eq_true rfl) (Nat.le_of_ble_eq_true rfl) (Nat.zero_le _) (Nat.zero_le _) (fun v9 w9 R_18 => ?_)
                  obtain ⟨rfl, rfl⟩ := R_18
                  show WW κ 0 0 [(a 0, mO a v), (a 1, aI (kG κ) 800 f1), (a 37, aI (kG κ) 12 p37), (a 38, aI (kG κ) 12 g38)] 60 [(0, .ref (a 0)), (1, .int (nI t)), (2, .int (nI k))] [.int (nI (ρ.2 t 5)), .int (nI (ρ.2 k 0))]
                  refine n_icmp_ne (tg := 84) (nx := 63) C dX9_laysSets_60 rfl rfl (by omega) (by omega) (fun h_19 => ?_) (fun h_19 => ?_)
                  · have hof : ¬ (t < ρ.1 ∧ ρ.2 k 0 = ρ.2 t 5 ∧ ρ.2 k 1 + 1 = ρ.2 t 4) := by omega
                    refine w_iconst (nx := 85) C (nI 0) dX9_laysSets_84 rfl (by decide) ?_
                    refine w_istore_n (nx := 86) (lo2 := [(3, .int (nI 0)), (0, .ref (a 0)), (1, .int (nI t)), (2, .int (nI k))]) C dX9_laysSets_85 rfl rfl (by decide) rfl ?_
                    refine w_aload_n (nx := 87) C 1 dX9_laysSets_86 rfl rfl rfl ?_
                    refine w_getM (nx := 90) C (.ref (a 37)) 0 37 dX9_laysSets_87 rfl wl_X9_81 rfl (by decide) rfl (mg_37 _ _) ?_
                    refine w_iload_n (nx := 91) C 2 dX9_laysSets_90 rfl rfl rfl ?_
                    refine w_dup2 (nx := 92) C dX9_laysSets_91 rfl rfl rfl ?_
                    refine w_iald (nx := 93) C (nI (setK ρ t k)) 2 t dX9_laysSets_92 rfl rfl (by decide) rfl (by omega) hs2 ?_
                    refine w_iload_n (nx := 94) C 0 dX9_laysSets_93 rfl rfl rfl ?_
                    refine w_if_eq (tg := 103) (nx := 97) C dX9_laysSets_94 rfl rfl (fun _ => ?_) (fun q9 => absurd (by decide) q9)
                    refine w_iconst (nx := 104) C (nI 0) dX9_laysSets_103 rfl (by decide) ?_
                    refine w_ior (nx := 105) C (nI (setK ρ t (k + 1))) dX9_laysSets_104 rfl ((nI_or _ _).trans (congrArg nI ((Nat.or_zero _).trans (setK_off hof).symm))) ?_
                    refine w_iast (nx := 106) (ws2 := [(a 0, mO a v), (a 1, aI (kG κ) 800 f1), (a 37, aI (kG κ) 12 (upd p37 t (nI (setK ρ t (k + 1))))), (a 38, aI (kG κ) 12 g38)]) C 2 t dX9_laysSets_105 rfl rfl (by decide) rfl (by omega) rfl ?_
                    refine w_iinc (nx := 109) (lo2 := [(2, .int (nI (k + 1))), (3, .int (nI 0)), (0, .ref (a 0)), (1, .int (nI t))]) C (nI (k + 1)) 3 dX9_laysSets_106 rfl rfl (nI_add _ _) (by decide) rfl ?_
                    refine w_goto (nx := 17) C dX9_laysSets_109 rfl ?_
                    refine ww_lo [2, 3, 0] (lo' := [(0, .ref (a 0)), (1, .int (nI t)), (2, .int (nI (k + 1)))]) rfl ?_
                    exact ih9_17 (k + 1) (upd p37 t (nI (setK ρ t (k + 1)))) (by first | assumption | omega) (fun q hq => (upd_n (by omega)).trans (hs1 q hq)) (upd_e rfl) (by omega)
                  · refine w_aload_n (nx := 64) C 0 dX9_laysSets_63 rfl rfl rfl ?_
                    refine w_iload_n (nx := 65) C 2 dX9_laysSets_64 rfl rfl rfl ?_
                    refine w_iconst (nx := 66) C (nI 1) dX9_laysSets_65 rfl (by decide) ?_
                    refine w_callV (nx := 69) (wr := [(a 37, aI (kG κ) 12 p37), (a 38, aI (kG κ) 12 g38)]) (rest := []) C mi_X9_of (c_X9_of _ _ a v f1 k 1 (nI (ρ.2 k 1)) (by first | assumption | omega) (by first | assumption | omega) (hR.2.1 k (by omega) 1 (by decide))) 0 dX9_laysSets_66 rfl wl_X9_146 rfl rfl rfl (pm_sel [0, 1, 2, 3] 4 (by decide +kernel) rfl rfl) rfl rfl (Nat.le_of_ble_eq_true rfl) (Nat.le_of_ble_eq_true rfl) (Nat.le_of_ble_eq_true rfl) (Nat.zero_le _) (Nat.zero_le _) (fun v9 w9 R_21 => ?_)
                    obtain ⟨rfl, rfl⟩ := R_21
                    show WW κ 0 0 [(a 0, mO a v), (a 1, aI (kG κ) 800 f1), (a 37, aI (kG κ) 12 p37), (a 38, aI (kG κ) 12 g38)] 69 [(0, .ref (a 0)), (1, .int (nI t)), (2, .int (nI k))] [.int (nI (ρ.2 k 1))]
                    refine w_aload_n (nx := 70) C 0 dX9_laysSets_69 rfl rfl rfl ?_
                    refine w_iload_n (nx := 71) C 1 dX9_laysSets_70 rfl rfl rfl ?_
                    refine w_iconst (nx := 72) C (nI 4) dX9_laysSets_71 rfl (by decide) ?_
                    refine w_callV (nx := 75) (wr := [(a 37, aI (kG κ) 12 p37), (a 38, aI (kG κ) 12 g38)]) (rest := [.int (nI (ρ.2 k 1))]) C mi_X9_of (c_X9_of _ _ a v f1 t 4 (nI (ρ.2 t 4)) (by first | assumption | omega) (by first | assumption | omega) (hR.2.1 t (by omega) 4 (by decide))) 0 dX9_laysSets_72 rfl wl_X9_146 rfl rfl rfl (pm_sel [0, 1, 2, 3] 4 (by decide +kernel) rfl rfl) rfl rfl (Nat.le_of_ble_eq_true rfl) (Nat.le_of_ble_eq_true rfl) (Nat.le_of_ble_eq_true rfl) (Nat.zero_le _) (Nat.zero_le _) (fun v9 w9 R_22 => ?_)
                    obtain ⟨rfl, rfl⟩ := R_22
                    show WW κ 0 0 [(a 0, mO a v), (a 1, aI (kG κ) 800 f1), (a 37, aI (kG κ) 12 p37), (a 38, aI (kG κ) 12 g38)] 75 [(0, .ref (a 0)), (1, .int (nI t)), (2, .int (nI k))] [.int (nI (ρ.2 t 4)), .int (nI (ρ.2 k 1))]
                    refine w_iconst (nx := 76) C (nI 1) dX9_laysSets_75 rfl (by decide) ?_
                    refine w_isub (nx := 77) C (nI (ρ.2 t 4 - 1)) dX9_laysSets_76 rfl (pk_sub (by omega)) ?_
                    refine n_icmp_ne (tg := 84) (nx := 80) C dX9_laysSets_77 rfl rfl (by omega) (by omega) (fun h_23 => ?_) (fun h_23 => ?_)
                    · have hof : ¬ (t < ρ.1 ∧ ρ.2 k 0 = ρ.2 t 5 ∧ ρ.2 k 1 + 1 = ρ.2 t 4) := by omega
                      refine w_iconst (nx := 85) C (nI 0) dX9_laysSets_84 rfl (by decide) ?_
                      refine w_istore_n (nx := 86) (lo2 := [(3, .int (nI 0)), (0, .ref (a 0)), (1, .int (nI t)), (2, .int (nI k))]) C dX9_laysSets_85 rfl rfl (by decide) rfl ?_
                      refine w_aload_n (nx := 87) C 1 dX9_laysSets_86 rfl rfl rfl ?_
                      refine w_getM (nx := 90) C (.ref (a 37)) 0 37 dX9_laysSets_87 rfl wl_X9_81 rfl (by decide) rfl (mg_37 _ _) ?_
                      refine w_iload_n (nx := 91) C 2 dX9_laysSets_90 rfl rfl rfl ?_
                      refine w_dup2 (nx := 92) C dX9_laysSets_91 rfl rfl rfl ?_
                      refine w_iald (nx := 93) C (nI (setK ρ t k)) 2 t dX9_laysSets_92 rfl rfl (by decide) rfl (by omega) hs2 ?_
                      refine w_iload_n (nx := 94) C 0 dX9_laysSets_93 rfl rfl rfl ?_
                      refine w_if_eq (tg := 103) (nx := 97) C dX9_laysSets_94 rfl rfl (fun _ => ?_) (fun q9 => absurd (by decide) q9)
                      refine w_iconst (nx := 104) C (nI 0) dX9_laysSets_103 rfl (by decide) ?_
                      refine w_ior (nx := 105) C (nI (setK ρ t (k + 1))) dX9_laysSets_104 rfl ((nI_or _ _).trans (congrArg nI ((Nat.or_zero _).trans (setK_off hof).symm))) ?_
                      refine w_iast (nx := 106) (ws2 := [(a 0, mO a v), (a 1, aI (kG κ) 800 f1), (a 37, aI (kG κ) 12 (upd p37 t (nI (setK ρ t (k + 1))))), (a 38, aI (kG κ) 12 g38)]) C 2 t dX9_laysSets_105 rfl rfl (by decide) rfl (by omega) rfl ?_
                      refine w_iinc (nx := 109) (lo2 := [(2, .int (nI (k + 1))), (3, .int (nI 0)), (0, .ref (a 0)), (1, .int (nI t))]) C (nI (k + 1)) 3 dX9_laysSets_106 rfl rfl (nI_add _ _) (by decide) rfl ?_
                      refine w_goto (nx := 17) C dX9_laysSets_109 rfl ?_
                      refine ww_lo [2, 3, 0] (lo' := [(0, .ref (a 0)), (1, .int (nI t)), (2, .int (nI (k + 1)))]) rfl ?_
                      exact ih9_17 (k + 1) (upd p37 t (nI (setK ρ t (k + 1)))) (by first | assumption | omega) (fun q hq => (upd_n (by omega)).trans (hs1 q hq)) (upd_e rfl) (by omega)
                    · refine w_iconst (nx := 81) C (nI 1) dX9_laysSets_80 rfl (by decide) ?_
                      refine w_goto (nx := 85) C dX9_laysSets_81 rfl ?_
                      refine w_istore_n (nx := 86) (lo2 := [(3, .int (nI 1)), (0, .ref (a 0)), (1, .int (nI t)), (2, .int (nI k))]) C dX9_laysSets_85 rfl rfl (by decide) rfl ?_
                      refine w_aload_n (nx := 87) C 1 dX9_laysSets_86 rfl rfl rfl ?_
                      refine w_getM (nx := 90) C (.ref (a 37)) 0 37 dX9_laysSets_87 rfl wl_X9_81 rfl (by decide) rfl (mg_37 _ _) ?_
                      refine w_iload_n (nx := 91) C 2 dX9_laysSets_90 rfl rfl rfl ?_
                      refine w_dup2 (nx := 92) C dX9_laysSets_91 rfl rfl rfl ?_
                      refine w_iald (nx := 93) C (nI (setK ρ t k)) 2 t dX9_laysSets_92 rfl rfl (by decide) rfl (by omega) hs2 ?_
                      refine w_iload_n (nx := 94) C 0 dX9_laysSets_93 rfl rfl rfl ?_
                      refine w_if_eq (tg := 103) (nx := 97) C dX9_laysSets_94 rfl rfl (fun q9 => absurd q9 (by decide)) (fun _ => ?_)
                      refine w_iconst (nx := 98) C (nI 1) dX9_laysSets_97 rfl (by decide) ?_
                      refine w_iload_n (nx := 99) C 3 dX9_laysSets_98 rfl rfl rfl ?_
                      refine w_ishl (nx := 100) C (nI (2 ^ k)) dX9_laysSets_99 rfl (sh1 k (by omega)) ?_
                      refine w_goto (nx := 104) C dX9_laysSets_100 rfl ?_
                      refine w_ior (nx := 105) C (nI (setK ρ t (k + 1))) dX9_laysSets_104 rfl ((nI_or _ _).trans (congrArg nI (setK_on ht9 (by omega) (by omega)).symm)) ?_
                      refine w_iast (nx := 106) (ws2 := [(a 0, mO a v), (a 1, aI (kG κ) 800 f1), (a 37, aI (kG κ) 12 (upd p37 t (nI (setK ρ t (k + 1))))), (a 38, aI (kG κ) 12 g38)]) C 2 t dX9_laysSets_105 rfl rfl (by decide) rfl (by omega) rfl ?_
                      refine w_iinc (nx := 109) (lo2 := [(2, .int (nI (k + 1))), (3, .int (nI 1)), (0, .ref (a 0)), (1, .int (nI t))]) C (nI (k + 1)) 3 dX9_laysSets_106 rfl rfl (nI_add _ _) (by decide) rfl ?_
                      refine w_goto (nx := 17) C dX9_laysSets_109 rfl ?_
                      refine ww_lo [2, 3, 0] (lo' := [(0, .ref (a 0)), (1, .int (nI t)), (2, .int (nI (k + 1)))]) rfl ?_
                      exact ih9_17 (k + 1) (upd p37 t (nI (setK ρ t (k + 1)))) (by first | assumption | omega) (fun q hq => (upd_n (by omega)).trans (hs1 q hq)) (upd_e rfl) (by omega)
        refine ww_lo [1, 2, 0] (lo' := [(0, .ref (a 0)), (1, .int (nI t)), (2, .int (nI 0))]) rfl ?_
        exact LP_10 _ 0 (upd g37 t (nI 0)) (Nat.zero_le _) (fun q hq => (upd_n (by omega)).trans (hs q hq)) ((upd_e rfl).trans (by unfold setK; split <;> rfl)) (Nat.lt_succ_self _)
  refine ww_lo [1, 0] (lo' := [(0, .ref (a 0)), (1, .int (nI 0))]) rfl ?_
  exact LP_1 _ 0 f37 f38 (Nat.zero_le _) (fun q hq => absurd hq (Nat.not_lt_zero _)) (fun q hq => absurd hq (Nat.not_lt_zero _)) (Nat.lt_succ_self _)
set_option maxHeartbeats 4000000 in
set_option maxRecDepth 100000 in
theorem c_X9_selves (l : Launch) (G : GG) (a : Nat → Nat) (v : Nat → Int32) (f1 : Nat → Int32) (f37 : Nat → Int32) (f38 : Nat → Int32) (ρ : TR) (hR : rMR f1 ρ) (hw : wfR ρ) : MT l G yX9_selves cX9_selves 3 (some .int) 3 0 0 [.ref (a 0)] [(a 0, mO a v), (a 1, aI G 800 f1), (a 37, aI G 12 f37), (a 38, aI G 12 f38)] (fun v9 ws9 => ∃ (g37 : Nat → Int32) (g38 : Nat → Int32), v9 = some (.int (nI (slfN ρ ρ.1))) ∧ ws9 = [(a 0, mO a v), (a 1, aI G 800 f1), (a 37, aI G 12 g37), (a 38, aI G 12 g38)]) := by
  refine MT.of RX9 [(0, .ref (a 0))] (by decide +kernel) rfl rfl (Nat.le_of_ble_eq_true rfl) (fun κ C E hl9 hG9 hnm9 => ?_)
  subst hl9; subst hG9
  have hn12 := hw.1
  refine w_aload_n (nx := 1) C 0 dX9_selves_0 rfl rfl rfl ?_
  refine w_callV (nx := 4) (wr := []) (rest := []) C mi_X9_laysSets (c_X9_laysSets _ _ a v f1 f37 f38 ρ (hR) (hw)) 0 dX9_selves_1 rfl wl_X9_221 rfl rfl rfl (pm_sel [0, 1, 2, 3] 4 (by decide +kernel) rfl rfl) rfl rfl (Nat.le_of_ble_eq_true rfl) (Nat.le_of_ble_eq_true rfl) (Nat.le_of_ble_eq_true rfl) (Nat.zero_le _) (Nat.zero_le _) (fun v9 w9 R_1 => ?_)
  obtain ⟨gA37, gA38, rfl, rfl, hA1, hA2⟩ := R_1
  show WW κ 0 0 [(a 0, mO a v), (a 1, aI (kG κ) 800 f1), (a 37, aI (kG κ) 12 gA37), (a 38, aI (kG κ) 12 gA38)] 4 [(0, .ref (a 0))] []
  refine w_iconst (nx := 5) C (nI 0) dX9_selves_4 rfl (by decide) ?_
  refine w_istore_n (nx := 6) (lo2 := [(1, .int (nI 0)), (0, .ref (a 0))]) C dX9_selves_5 rfl rfl (by decide) rfl ?_
  refine w_iconst (nx := 7) C (nI 0) dX9_selves_6 rfl (by decide) ?_
  refine w_istore_n (nx := 8) (lo2 := [(2, .int (nI 0)), (1, .int (nI 0)), (0, .ref (a 0))]) C dX9_selves_7 rfl rfl (by decide) rfl ?_
  have LP_2 : ∀ (N9_8 : Nat) (t : Nat), (t ≤ 12) → (12 - t) < N9_8 → WW κ 0 0 [(a 0, mO a v), (a 1, aI (kG κ) 800 f1), (a 37, aI (kG κ) 12 gA37), (a 38, aI (kG κ) 12 gA38)] 8 [(0, .ref (a 0)), (1, .int (nI (slfX ρ t))), (2, .int (nI t))] [] := by
    intro N9_8
    induction N9_8 with
    | zero => intro t ht hm9_8; exact absurd hm9_8 (Nat.not_lt_zero _)
    | succ N9_8 ih9_8 =>
      intro t ht hm9_8
      refine w_iload_n (nx := 9) C 2 dX9_selves_8 rfl rfl rfl ?_
      refine w_bipush (nx := 11) C (nI 12) dX9_selves_9 rfl (by decide) ?_
      refine n_icmp_ge (tg := 44) (nx := 14) C dX9_selves_11 rfl rfl (by omega) (by omega) (fun h_3 => ?_) (fun h_3 => ?_)
      · have ht12 : t = 12 := by omega
        refine w_iload_n (nx := 45) C 1 dX9_selves_44 rfl rfl rfl ?_
        exact w_iret (ty := .int) C E dX9_selves_45 rfl rfl (Nat.le_refl _) (Nat.le_refl _) ⟨_, _, (congrArg (fun z => some (Value.int z)) (congrArg nI (by rw [ht12]; exact slfX_12 hn12))), rfl⟩
      · have hft := rchX_lt hn12 t 11
        have hb8 : (if (rchX ρ t 11).testBit t then 1 else 0) < 2 := by split <;> decide
        refine w_iload_n (nx := 15) C 1 dX9_selves_14 rfl rfl rfl ?_
        refine w_aload_n (nx := 16) C 0 dX9_selves_15 rfl rfl rfl ?_
        refine w_getM (nx := 19) C (.ref (a 38)) 0 38 dX9_selves_16 rfl wl_X9_84 rfl (by decide) rfl (mg_38 _ _) ?_
        refine w_iload_n (nx := 20) C 2 dX9_selves_19 rfl rfl rfl ?_
        refine w_iald (nx := 21) C (nI (rchX ρ t 11)) 3 t dX9_selves_20 rfl rfl (by decide) rfl (by omega) (hA2 t (by omega)) ?_
        refine w_iload_n (nx := 22) C 2 dX9_selves_21 rfl rfl rfl ?_
        refine w_ishr (nx := 23) C (nI (rchX ρ t 11 / 2 ^ t)) dX9_selves_22 rfl (shr12 hft (by omega)) ?_
        refine w_iconst (nx := 24) C (nI 1) dX9_selves_23 rfl (by decide) ?_
        refine w_iand (nx := 25) C (nI (if (rchX ρ t 11).testBit t then 1 else 0)) dX9_selves_24 rfl ((nI_and _ _).trans (congrArg nI (bit12 (rchX ρ t 11) t))) ?_
        refine w_iconst (nx := 26) C (nI 1) dX9_selves_25 rfl (by decide) ?_
        refine n_icmp_ne (tg := 35) (nx := 29) C dX9_selves_26 rfl rfl (by omega) (by omega) (fun h_4 => ?_) (fun h_4 => ?_)
        · have hbt : ¬ (rchX ρ t 11).testBit t = true := fun z => by rw [if_pos z] at h_4; exact absurd rfl h_4
          refine w_iconst (nx := 36) C (nI 0) dX9_selves_35 rfl (by decide) ?_
          refine w_ior (nx := 37) C (nI (slfX ρ (t + 1))) dX9_selves_36 rfl ((nI_or _ _).trans (congrArg nI ((Nat.or_zero _).trans (show slfX ρ t = (if _ then _ else _) by rw [if_neg hbt])))) ?_
          refine w_istore_n (nx := 38) (lo2 := [(1, .int (nI (slfX ρ (t + 1)))), (0, .ref (a 0)), (2, .int (nI t))]) C dX9_selves_37 rfl rfl (by decide) rfl ?_
          refine w_iinc (nx := 41) (lo2 := [(2, .int (nI (t + 1))), (1, .int (nI (slfX ρ (t + 1)))), (0, .ref (a 0))]) C (nI (t + 1)) 2 dX9_selves_38 rfl rfl (nI_add _ _) (by decide) rfl ?_
          refine w_goto (nx := 8) C dX9_selves_41 rfl ?_
          refine ww_lo [2, 1, 0] (lo' := [(0, .ref (a 0)), (1, .int (nI (slfX ρ (t + 1)))), (2, .int (nI (t + 1)))]) rfl ?_
          exact ih9_8 (t + 1) (by first | assumption | omega) (by omega)
        · have hbt : (rchX ρ t 11).testBit t = true := Classical.byContradiction fun z => by rw [if_neg z] at h_4; exact absurd h_4 (by decide)
          refine w_iconst (nx := 30) C (nI 1) dX9_selves_29 rfl (by decide) ?_
          refine w_iload_n (nx := 31) C 2 dX9_selves_30 rfl rfl rfl ?_
          refine w_ishl (nx := 32) C (nI (2 ^ t)) dX9_selves_31 rfl (sh1 t (by omega)) ?_
          refine w_goto (nx := 36) C dX9_selves_32 rfl ?_
          refine w_ior (nx := 37) C (nI (slfX ρ (t + 1))) dX9_selves_36 rfl ((nI_or _ _).trans (congrArg nI (show slfX ρ t ||| 2 ^ t = (if _ then _ else _) by rw [if_pos hbt]))) ?_
          refine w_istore_n (nx := 38) (lo2 := [(1, .int (nI (slfX ρ (t + 1)))), (0, .ref (a 0)), (2, .int (nI t))]) C dX9_selves_37 rfl rfl (by decide) rfl ?_
          refine w_iinc (nx := 41) (lo2 := [(2, .int (nI (t + 1))), (1, .int (nI (slfX ρ (t + 1)))), (0, .ref (a 0))]) C (nI (t + 1)) 2 dX9_selves_38 rfl rfl (nI_add _ _) (by decide) rfl ?_
          refine w_goto (nx := 8) C dX9_selves_41 rfl ?_
          refine ww_lo [2, 1, 0] (lo' := [(0, .ref (a 0)), (1, .int (nI (slfX ρ (t + 1)))), (2, .int (nI (t + 1)))]) rfl ?_
          exact ih9_8 (t + 1) (by first | assumption | omega) (by omega)
  refine ww_lo [2, 1, 0] (lo' := [(0, .ref (a 0)), (1, .int (nI 0)), (2, .int (nI 0))]) rfl ?_
  exact LP_2 _ 0 (Nat.zero_le _) (Nat.lt_succ_self _)
set_option maxHeartbeats 4000000 in
set_option maxRecDepth 100000 in
theorem c_X9_ofTrigger (l : Launch) (G : GG) (h : Nat) (w : va_W) (X : SX) (qi : Int32) (qw : Int32) (hRX : RMX G h w X) : MT l G yX9_ofTrigger cX9_ofTrigger 3 (some .int) 3 0 0 [.ref h, .int qi, .int qw] ((w)) (fun v9 ws9 => ∃ (w2 : va_W), v9 = some (.int ((o_ofTrigger X qi qw).1)) ∧ ws9 = ((w2)) ∧ RMX G h w2 (o_ofTrigger X qi qw).2) := by
  refine RMX_elim hRX (fun a v f1 f2 f3 f5 f6 f7 f17 f21 f22 f23 f24 f25 f26 f27 f28 f29 f31 f32 f33 f34 f35 f36 f37 f38 f41 hw9 hh hO hS hU hUn hSl hPd h18 => ?_)
  subst hw9
  subst hh
  refine MT.of RX9 [(0, .ref (a 0)), (1, .int qi), (2, .int qw)] (by decide +kernel) rfl rfl (Nat.le_of_ble_eq_true rfl) (fun κ C E hl9 hG9 hnm9 => ?_)
  subst hl9; subst hG9
  have hn12 := hO.1.2.2.2.1.1
  have hj100 := hO.1.2.2.2.2
  have hz6 := hO.2.1.1
  have hp60 := hO.2.2.2.1
  have hd8 := hO.1.1
  have hl1 := hO.1.2.1
  have hzT := hO.1.2.2.1
  refine w_aload_n (nx := 1) C 0 dX9_ofTrigger_0 rfl rfl rfl ?_
  refine w_iconst (nx := 2) C (nI 0) dX9_ofTrigger_1 rfl (by decide) ?_
  refine w_putM (nx := 5) (ws2 := [(a 0, mO a (upd v 0 (nI 0))), (a 1, aI (kG κ) 800 f1), (a 2, aI (kG κ) 800 f2), (a 3, aI (kG κ) 4800 f3), (a 5, aI (kG κ) 1600 f5), (a 6, aZ (kG κ) 2 f6), (a 7, aI (kG κ) 60 f7), (a 17, aI (kG κ) 12 f17), (a 21, aI (kG κ) 12 f21), (a 22, aI (kG κ) 12 f22), (a 23, aI (kG κ) 12 f23), (a 24, aI (kG κ) 12 f24), (a 25, aI (kG κ) 12 f25), (a 26, aI (kG κ) 12 f26), (a 27, aI (kG κ) 12 f27), (a 28, aI (kG κ) 12 f28), (a 29, aZ (kG κ) 4 f29), (a 31, aI (kG κ) 1300 f31), (a 32, aI (kG κ) 1300 f32), (a 33, aI (kG κ) 1300 f33), (a 34, aI (kG κ) 1300 f34), (a 35, aI (kG κ) 13000 f35), (a 36, aI (kG κ) 606 f36), (a 37, aI (kG κ) 12 f37), (a 38, aI (kG κ) 12 f38), (a 41, aI (kG κ) 64 f41)]) C 0 0 dX9_ofTrigger_2 rfl wl_X9_90 rfl (by decide) rfl rfl rfl (ms_0 _ _ _) rfl ?_
  refine w_aload_n (nx := 6) C 0 dX9_ofTrigger_5 rfl rfl rfl ?_
  refine w_iload_n (nx := 7) C 1 dX9_ofTrigger_6 rfl rfl rfl ?_
  refine w_callV (nx := 10) (wr := [(a 2, aI (kG κ) 800 f2), (a 3, aI (kG κ) 4800 f3), (a 5, aI (kG κ) 1600 f5), (a 6, aZ (kG κ) 2 f6), (a 7, aI (kG κ) 60 f7), (a 17, aI (kG κ) 12 f17), (a 21, aI (kG κ) 12 f21), (a 22, aI (kG κ) 12 f22), (a 23, aI (kG κ) 12 f23), (a 24, aI (kG κ) 12 f24), (a 25, aI (kG κ) 12 f25), (a 26, aI (kG κ) 12 f26), (a 27, aI (kG κ) 12 f27), (a 28, aI (kG κ) 12 f28), (a 29, aZ (kG κ) 4 f29), (a 31, aI (kG κ) 1300 f31), (a 32, aI (kG κ) 1300 f32), (a 33, aI (kG κ) 1300 f33), (a 34, aI (kG κ) 1300 f34), (a 35, aI (kG κ) 13000 f35), (a 36, aI (kG κ) 606 f36), (a 37, aI (kG κ) 12 f37), (a 38, aI (kG κ) 12 f38), (a 41, aI (kG κ) 64 f41)]) (rest := []) C mi_X9_isTrigger (c_X9_isTrigger _ _ a (upd v 0 (nI 0)) f1 qi ((sR (xS X)).1) (hS.2.2.2.1.1) (hn12)) 0 dX9_ofTrigger_7 rfl wl_X9_208 rfl rfl rfl (pm_sel [0, 1, 2, 3, 4, 5, 6, 7, 8, 9, 10, 11, 12, 13, 14, 15, 16, 17, 18, 19, 20, 21, 22, 23, 24, 25] 26 (by decide +kernel) rfl rfl) rfl rfl (Nat.le_of_ble_eq_true rfl) (Nat.le_of_ble_eq_true rfl) (Nat.le_of_ble_eq_true rfl) (Nat.zero_le _) (Nat.zero_le _) (fun v9 w9 R_1 => ?_)
  obtain ⟨rfl, rfl⟩ := R_1
  show WW κ 0 0 [(a 0, mO a (upd v 0 (nI 0))), (a 1, aI (kG κ) 800 f1), (a 2, aI (kG κ) 800 f2), (a 3, aI (kG κ) 4800 f3), (a 5, aI (kG κ) 1600 f5), (a 6, aZ (kG κ) 2 f6), (a 7, aI (kG κ) 60 f7), (a 17, aI (kG κ) 12 f17), (a 21, aI (kG κ) 12 f21), (a 22, aI (kG κ) 12 f22), (a 23, aI (kG κ) 12 f23), (a 24, aI (kG κ) 12 f24), (a 25, aI (kG κ) 12 f25), (a 26, aI (kG κ) 12 f26), (a 27, aI (kG κ) 12 f27), (a 28, aI (kG κ) 12 f28), (a 29, aZ (kG κ) 4 f29), (a 31, aI (kG κ) 1300 f31), (a 32, aI (kG κ) 1300 f32), (a 33, aI (kG κ) 1300 f33), (a 34, aI (kG κ) 1300 f34), (a 35, aI (kG κ) 13000 f35), (a 36, aI (kG κ) 606 f36), (a 37, aI (kG κ) 12 f37), (a 38, aI (kG κ) 12 f38), (a 41, aI (kG κ) 64 f41)] 10 [(0, .ref (a 0)), (1, .int qi), (2, .int qw)] [.int (bC (wi qi ((sR (xS X)).1)))]
  refine b_if_ne (tg := 15) (nx := 13) C dX9_ofTrigger_10 rfl rfl (fun h_2 => ?_) (fun h_2 => ?_)
  · obtain ⟨ji, hji, rfl⟩ := h_2
    refine w_iload_n (nx := 16) C 2 dX9_ofTrigger_15 rfl rfl rfl ?_
    refine w_iconst (nx := 17) C (nI 0) dX9_ofTrigger_16 rfl (by decide) ?_
    refine w_bipush (nx := 19) C (nI 9) dX9_ofTrigger_17 rfl (by decide) ?_
    refine w_callS (nx := 22) (wr := [(a 0, mO a (upd v 0 (nI 0))), (a 1, aI (kG κ) 800 f1), (a 2, aI (kG κ) 800 f2), (a 3, aI (kG κ) 4800 f3), (a 5, aI (kG κ) 1600 f5), (a 6, aZ (kG κ) 2 f6), (a 7, aI (kG κ) 60 f7), (a 17, aI (kG κ) 12 f17), (a 21, aI (kG κ) 12 f21), (a 22, aI (kG κ) 12 f22), (a 23, aI (kG κ) 12 f23), (a 24, aI (kG κ) 12 f24), (a 25, aI (kG κ) 12 f25), (a 26, aI (kG κ) 12 f26), (a 27, aI (kG κ) 12 f27), (a 28, aI (kG κ) 12 f28), (a 29, aZ (kG κ) 4 f29), (a 31, aI (kG κ) 1300 f31), (a 32, aI (kG κ) 1300 f32), (a 33, aI (kG κ) 1300 f33), (a 34, aI (kG κ) 1300 f34), (a 35, aI (kG κ) 13000 f35), (a 36, aI (kG κ) 606 f36), (a 37, aI (kG κ) 12 f37), (a 38, aI (kG κ) 12 f38), (a 41, aI (kG κ) 64 f41)]) (rest := []) C ms_X9_in (c_X9_in_w _ _ qw 10 (nI 9) (by decide) (by decide)) dX9_ofTrigger_19 rfl wl_X9_93 rfl (pm_sel [0, 1, 2, 3, 4, 5, 6, 7, 8, 9, 10, 11, 12, 13, 14, 15, 16, 17, 18, 19, 20, 21, 22, 23, 24, 25] 26 (by decide +kernel) rfl rfl) rfl rfl (Nat.le_of_ble_eq_true rfl) (Nat.le_of_ble_eq_true rfl) (Nat.le_of_ble_eq_true rfl) (Nat.zero_le _) (Nat.zero_le _) (fun v9 w9 R_3 => ?_)
    obtain ⟨rfl, rfl⟩ := R_3
    show WW κ 0 0 [(a 0, mO a (upd v 0 (nI 0))), (a 1, aI (kG κ) 800 f1), (a 2, aI (kG κ) 800 f2), (a 3, aI (kG κ) 4800 f3), (a 5, aI (kG κ) 1600 f5), (a 6, aZ (kG κ) 2 f6), (a 7, aI (kG κ) 60 f7), (a 17, aI (kG κ) 12 f17), (a 21, aI (kG κ) 12 f21), (a 22, aI (kG κ) 12 f22), (a 23, aI (kG κ) 12 f23), (a 24, aI (kG κ) 12 f24), (a 25, aI (kG κ) 12 f25), (a 26, aI (kG κ) 12 f26), (a 27, aI (kG κ) 12 f27), (a 28, aI (kG κ) 12 f28), (a 29, aZ (kG κ) 4 f29), (a 31, aI (kG κ) 1300 f31), (a 32, aI (kG κ) 1300 f32), (a 33, aI (kG κ) 1300 f33), (a 34, aI (kG κ) 1300 f34), (a 35, aI (kG κ) 13000 f35), (a 36, aI (kG κ) 606 f36), (a 37, aI (kG κ) 12 f37), (a 38, aI (kG κ) 12 f38), (a 41, aI (kG κ) 64 f41)] 22 [(0, .ref (a 0)), (1, .int (nI ji)), (2, .int qw)] [.int (bC (wi qw 10))]
    refine b_if_ne (tg := 28) (nx := 25) C dX9_ofTrigger_22 rfl rfl (fun h_4 => ?_) (fun h_4 => ?_)
    · obtain ⟨jw, hjw, rfl⟩ := h_4
      refine w_iload_n (nx := 29) C 2 dX9_ofTrigger_28 rfl rfl rfl ?_
      refine w_bipush (nx := 31) C (nI 8) dX9_ofTrigger_29 rfl (by decide) ?_
      refine n_icmp_ge (tg := 41) (nx := 34) C dX9_ofTrigger_31 rfl rfl (by omega) (by omega) (fun h_5 => ?_) (fun h_5 => ?_)
      · have hw8 : 8 ≤ jw := by omega
        refine w_aload_n (nx := 42) C 0 dX9_ofTrigger_41 rfl rfl rfl ?_
        refine w_callV (nx := 45) (wr := [(a 2, aI (kG κ) 800 f2), (a 3, aI (kG κ) 4800 f3), (a 5, aI (kG κ) 1600 f5), (a 6, aZ (kG κ) 2 f6), (a 7, aI (kG κ) 60 f7), (a 17, aI (kG κ) 12 f17), (a 21, aI (kG κ) 12 f21), (a 22, aI (kG κ) 12 f22), (a 23, aI (kG κ) 12 f23), (a 24, aI (kG κ) 12 f24), (a 25, aI (kG κ) 12 f25), (a 26, aI (kG κ) 12 f26), (a 27, aI (kG κ) 12 f27), (a 28, aI (kG κ) 12 f28), (a 29, aZ (kG κ) 4 f29), (a 31, aI (kG κ) 1300 f31), (a 32, aI (kG κ) 1300 f32), (a 33, aI (kG κ) 1300 f33), (a 34, aI (kG κ) 1300 f34), (a 35, aI (kG κ) 13000 f35), (a 36, aI (kG κ) 606 f36), (a 41, aI (kG κ) 64 f41)]) (rest := []) C mi_X9_laysSets (c_X9_laysSets _ _ a (upd v 0 (nI 0)) f1 f37 f38 (sR (xS X)) (hS.2.2.2.1) (hO.1.2.2.2.1)) 0 dX9_ofTrigger_42 rfl wl_X9_221 rfl rfl rfl (pm_sel [0, 1, 23, 24, 2, 3, 4, 5, 6, 7, 8, 9, 10, 11, 12, 13, 14, 15, 16, 17, 18, 19, 20, 21, 22, 25] 26 (by decide +kernel) rfl rfl) rfl rfl (Nat.le_of_ble_eq_true rfl) (Nat.le_of_ble_eq_true rfl) (Nat.le_of_ble_eq_true rfl) (Nat.zero_le _) (Nat.zero_le _) (fun v9 w9 R_6 => ?_)
        obtain ⟨gA37, gA38, rfl, rfl, hA1, hA2⟩ := R_6
        show WW κ 0 0 [(a 0, mO a (upd v 0 (nI 0))), (a 1, aI (kG κ) 800 f1), (a 37, aI (kG κ) 12 gA37), (a 38, aI (kG κ) 12 gA38), (a 2, aI (kG κ) 800 f2), (a 3, aI (kG κ) 4800 f3), (a 5, aI (kG κ) 1600 f5), (a 6, aZ (kG κ) 2 f6), (a 7, aI (kG κ) 60 f7), (a 17, aI (kG κ) 12 f17), (a 21, aI (kG κ) 12 f21), (a 22, aI (kG κ) 12 f22), (a 23, aI (kG κ) 12 f23), (a 24, aI (kG κ) 12 f24), (a 25, aI (kG κ) 12 f25), (a 26, aI (kG κ) 12 f26), (a 27, aI (kG κ) 12 f27), (a 28, aI (kG κ) 12 f28), (a 29, aZ (kG κ) 4 f29), (a 31, aI (kG κ) 1300 f31), (a 32, aI (kG κ) 1300 f32), (a 33, aI (kG κ) 1300 f33), (a 34, aI (kG κ) 1300 f34), (a 35, aI (kG κ) 13000 f35), (a 36, aI (kG κ) 606 f36), (a 41, aI (kG κ) 64 f41)] 45 [(0, .ref (a 0)), (1, .int (nI ji)), (2, .int (nI jw))] []
        refine w_iload_n (nx := 46) C 2 dX9_ofTrigger_45 rfl rfl rfl ?_
        refine w_bipush (nx := 48) C (nI 8) dX9_ofTrigger_46 rfl (by decide) ?_
        refine n_icmp_ne (tg := 60) (nx := 51) C dX9_ofTrigger_48 rfl rfl (by omega) (by omega) (fun h_7 => ?_) (fun h_7 => ?_)
        · have hw9 : jw = 9 := by omega
          refine w_aload_n (nx := 61) C 0 dX9_ofTrigger_60 rfl rfl rfl ?_
          refine w_getM (nx := 64) C (.ref (a 38)) 0 38 dX9_ofTrigger_61 rfl wl_X9_84 rfl (by decide) rfl (mg_38 _ _) ?_
          refine w_iload_n (nx := 65) C 1 dX9_ofTrigger_64 rfl rfl rfl ?_
          refine w_iald (nx := 66) C (nI (rchX (sR (xS X)) ji 11)) 3 ji dX9_ofTrigger_65 rfl rfl (by decide) rfl (by omega) (hA2 ji (by omega)) ?_
          refine w_iload_n (nx := 67) C 1 dX9_ofTrigger_66 rfl rfl rfl ?_
          refine w_ishr (nx := 68) C (nI (rchX (sR (xS X)) ji 11 / 2 ^ ji)) dX9_ofTrigger_67 rfl (shr12 (rchX_lt hn12 ji 11) (by omega)) ?_
          refine w_iconst (nx := 69) C (nI 1) dX9_ofTrigger_68 rfl (by decide) ?_
          refine w_iand (nx := 70) C (nI (if (rchX (sR (xS X)) ji 11).testBit ji then 1 else 0)) dX9_ofTrigger_69 rfl ((nI_and _ _).trans (congrArg nI (bit12 (rchX (sR (xS X)) ji 11) ji))) ?_
          refine ww_sel (l := [(a 0, mO a (upd v 0 (nI 0))), (a 1, aI (kG κ) 800 f1), (a 2, aI (kG κ) 800 f2), (a 3, aI (kG κ) 4800 f3), (a 5, aI (kG κ) 1600 f5), (a 6, aZ (kG κ) 2 f6), (a 7, aI (kG κ) 60 f7), (a 17, aI (kG κ) 12 f17), (a 21, aI (kG κ) 12 f21), (a 22, aI (kG κ) 12 f22), (a 23, aI (kG κ) 12 f23), (a 24, aI (kG κ) 12 f24), (a 25, aI (kG κ) 12 f25), (a 26, aI (kG κ) 12 f26), (a 27, aI (kG κ) 12 f27), (a 28, aI (kG κ) 12 f28), (a 29, aZ (kG κ) 4 f29), (a 31, aI (kG κ) 1300 f31), (a 32, aI (kG κ) 1300 f32), (a 33, aI (kG κ) 1300 f33), (a 34, aI (kG κ) 1300 f34), (a 35, aI (kG κ) 13000 f35), (a 36, aI (kG κ) 606 f36), (a 37, aI (kG κ) 12 gA37), (a 38, aI (kG κ) 12 gA38), (a 41, aI (kG κ) 64 f41)]) (pm_sel [0, 1, 4, 5, 6, 7, 8, 9, 10, 11, 12, 13, 14, 15, 16, 17, 18, 19, 20, 21, 22, 23, 24, 2, 3, 25] 26 (by decide +kernel) rfl rfl) ?_
          have ho9 : o_ofTrigger X (nI ji) (nI jw) = ((nI (if (rchX (sR (xS X)) ji 11).testBit ji then 1 else 0)), X) := by unfold o_ofTrigger; rw [if_neg (fun z => z ⟨ji, hji, rfl⟩), if_neg (show ¬ wi (nI jw) 8 from fun z => absurd ((in_nI (by omega) (by decide)).mp z) (by omega)), if_neg (show ¬ nI jw = 8 by rw [hw9]; decide), if_pos (show nI jw = 9 by rw [hw9]; rfl), tn_nI (show ji < 2 ^ 31 by omega)]; unfold slfB rchX; rw [if_pos hji]; split <;> rfl
          refine w_iret (ty := .int) C E dX9_ofTrigger_70 rfl rfl (Nat.le_refl _) (Nat.le_refl _) ?_
          rw [ho9]
          exact ⟨_, rfl, rfl, _, _, _, _, _, _, _, _, _, _, _, _, _, _, _, _, _, _, _, _, _, _, _, _, _, _, _, rfl, rfl, hO, hS, hU, hUn, hSl, hPd, h18⟩
        · have hw9 : jw = 8 := by omega
          refine w_aload_n (nx := 52) C 0 dX9_ofTrigger_51 rfl rfl rfl ?_
          refine w_getM (nx := 55) C (.ref (a 37)) 0 37 dX9_ofTrigger_52 rfl wl_X9_81 rfl (by decide) rfl (mg_37 _ _) ?_
          refine w_iload_n (nx := 56) C 1 dX9_ofTrigger_55 rfl rfl rfl ?_
          refine w_iald (nx := 57) C (nI (setK (sR (xS X)) ji (sR (xS X)).1)) 2 ji dX9_ofTrigger_56 rfl rfl (by decide) rfl (by omega) (hA1 ji (by omega)) ?_
          refine w_goto (nx := 70) C dX9_ofTrigger_57 rfl ?_
          refine ww_sel (l := [(a 0, mO a (upd v 0 (nI 0))), (a 1, aI (kG κ) 800 f1), (a 2, aI (kG κ) 800 f2), (a 3, aI (kG κ) 4800 f3), (a 5, aI (kG κ) 1600 f5), (a 6, aZ (kG κ) 2 f6), (a 7, aI (kG κ) 60 f7), (a 17, aI (kG κ) 12 f17), (a 21, aI (kG κ) 12 f21), (a 22, aI (kG κ) 12 f22), (a 23, aI (kG κ) 12 f23), (a 24, aI (kG κ) 12 f24), (a 25, aI (kG κ) 12 f25), (a 26, aI (kG κ) 12 f26), (a 27, aI (kG κ) 12 f27), (a 28, aI (kG κ) 12 f28), (a 29, aZ (kG κ) 4 f29), (a 31, aI (kG κ) 1300 f31), (a 32, aI (kG κ) 1300 f32), (a 33, aI (kG κ) 1300 f33), (a 34, aI (kG κ) 1300 f34), (a 35, aI (kG κ) 13000 f35), (a 36, aI (kG κ) 606 f36), (a 37, aI (kG κ) 12 gA37), (a 38, aI (kG κ) 12 gA38), (a 41, aI (kG κ) 64 f41)]) (pm_sel [0, 1, 4, 5, 6, 7, 8, 9, 10, 11, 12, 13, 14, 15, 16, 17, 18, 19, 20, 21, 22, 23, 24, 2, 3, 25] 26 (by decide +kernel) rfl rfl) ?_
          have ho9 : o_ofTrigger X (nI ji) (nI jw) = ((nI (setK (sR (xS X)) ji (sR (xS X)).1)), X) := by unfold o_ofTrigger; rw [if_neg (fun z => z ⟨ji, hji, rfl⟩), if_neg (show ¬ wi (nI jw) 8 from fun z => absurd ((in_nI (by omega) (by decide)).mp z) (by omega)), if_pos (show nI jw = 8 by rw [hw9]; rfl), tn_nI (show ji < 2 ^ 31 by omega)]; unfold setK; rw [if_pos hji]
          refine w_iret (ty := .int) C E dX9_ofTrigger_70 rfl rfl (Nat.le_refl _) (Nat.le_refl _) ?_
          rw [ho9]
          exact ⟨_, rfl, rfl, _, _, _, _, _, _, _, _, _, _, _, _, _, _, _, _, _, _, _, _, _, _, _, _, _, _, _, rfl, rfl, hO, hS, hU, hUn, hSl, hPd, h18⟩
      · have hw8 : jw < 8 := by omega
        refine w_aload_n (nx := 35) C 0 dX9_ofTrigger_34 rfl rfl rfl ?_
        refine w_iload_n (nx := 36) C 1 dX9_ofTrigger_35 rfl rfl rfl ?_
        refine w_iload_n (nx := 37) C 2 dX9_ofTrigger_36 rfl rfl rfl ?_
        refine w_callV (nx := 40) (wr := [(a 2, aI (kG κ) 800 f2), (a 3, aI (kG κ) 4800 f3), (a 5, aI (kG κ) 1600 f5), (a 6, aZ (kG κ) 2 f6), (a 7, aI (kG κ) 60 f7), (a 17, aI (kG κ) 12 f17), (a 21, aI (kG κ) 12 f21), (a 22, aI (kG κ) 12 f22), (a 23, aI (kG κ) 12 f23), (a 24, aI (kG κ) 12 f24), (a 25, aI (kG κ) 12 f25), (a 26, aI (kG κ) 12 f26), (a 27, aI (kG κ) 12 f27), (a 28, aI (kG κ) 12 f28), (a 29, aZ (kG κ) 4 f29), (a 31, aI (kG κ) 1300 f31), (a 32, aI (kG κ) 1300 f32), (a 33, aI (kG κ) 1300 f33), (a 34, aI (kG κ) 1300 f34), (a 35, aI (kG κ) 13000 f35), (a 36, aI (kG κ) 606 f36), (a 37, aI (kG κ) 12 f37), (a 38, aI (kG κ) 12 f38), (a 41, aI (kG κ) 64 f41)]) (rest := []) C mi_X9_of (c_X9_of _ _ a (upd v 0 (nI 0)) f1 ji jw (nI ((sR (xS X)).2 ji jw)) (by first | assumption | omega) (by first | assumption | omega) (hS.2.2.2.1.2.1 ji hji jw (by omega))) 0 dX9_ofTrigger_37 rfl wl_X9_146 rfl rfl rfl (pm_sel [0, 1, 2, 3, 4, 5, 6, 7, 8, 9, 10, 11, 12, 13, 14, 15, 16, 17, 18, 19, 20, 21, 22, 23, 24, 25] 26 (by decide +kernel) rfl rfl) rfl rfl (Nat.le_of_ble_eq_true rfl) (Nat.le_of_ble_eq_true rfl) (Nat.le_of_ble_eq_true rfl) (Nat.zero_le _) (Nat.zero_le _) (fun v9 w9 R_8 => ?_)
        obtain ⟨rfl, rfl⟩ := R_8
        show WW κ 0 0 [(a 0, mO a (upd v 0 (nI 0))), (a 1, aI (kG κ) 800 f1), (a 2, aI (kG κ) 800 f2), (a 3, aI (kG κ) 4800 f3), (a 5, aI (kG κ) 1600 f5), (a 6, aZ (kG κ) 2 f6), (a 7, aI (kG κ) 60 f7), (a 17, aI (kG κ) 12 f17), (a 21, aI (kG κ) 12 f21), (a 22, aI (kG κ) 12 f22), (a 23, aI (kG κ) 12 f23), (a 24, aI (kG κ) 12 f24), (a 25, aI (kG κ) 12 f25), (a 26, aI (kG κ) 12 f26), (a 27, aI (kG κ) 12 f27), (a 28, aI (kG κ) 12 f28), (a 29, aZ (kG κ) 4 f29), (a 31, aI (kG κ) 1300 f31), (a 32, aI (kG κ) 1300 f32), (a 33, aI (kG κ) 1300 f33), (a 34, aI (kG κ) 1300 f34), (a 35, aI (kG κ) 13000 f35), (a 36, aI (kG κ) 606 f36), (a 37, aI (kG κ) 12 f37), (a 38, aI (kG κ) 12 f38), (a 41, aI (kG κ) 64 f41)] 40 [(0, .ref (a 0)), (1, .int (nI ji)), (2, .int (nI jw))] [.int (nI ((sR (xS X)).2 ji jw))]
        have ho9 : o_ofTrigger X (nI ji) (nI jw) = ((nI ((sR (xS X)).2 ji jw)), X) := by unfold o_ofTrigger; rw [if_neg (fun z => z ⟨ji, hji, rfl⟩), if_pos ⟨jw, hw8, rfl⟩, tn_nI (show ji < 2 ^ 31 by omega), tn_nI (show jw < 2 ^ 31 by omega)]
        refine w_iret (ty := .int) C E dX9_ofTrigger_40 rfl rfl (Nat.le_refl _) (Nat.le_refl _) ?_
        rw [ho9]
        exact ⟨_, rfl, rfl, _, _, _, _, _, _, _, _, _, _, _, _, _, _, _, _, _, _, _, _, _, _, _, _, _, _, _, rfl, rfl, hO, hS, hU, hUn, hSl, hPd, h18⟩
    · have hno := h_4
      refine w_bipush (nx := 27) C (-2) dX9_ofTrigger_25 rfl (by decide) ?_
      have ho9 : o_ofTrigger X (nI ji) qw = ((-2), X) := by unfold o_ofTrigger; rw [if_neg (fun z => z ⟨ji, hji, rfl⟩), if_neg (fun z => hno (by obtain ⟨z1, z2, z3⟩ := z; exact ⟨z1, by omega, z3⟩)), if_neg (show ¬ qw = 8 from fun z => hno ⟨8, by decide, z⟩), if_neg (show ¬ qw = 9 from fun z => hno ⟨9, by decide, z⟩)]
      refine w_iret (ty := .int) C E dX9_ofTrigger_27 rfl rfl (Nat.le_refl _) (Nat.le_refl _) ?_
      rw [ho9]
      exact ⟨_, rfl, rfl, _, _, _, _, _, _, _, _, _, _, _, _, _, _, _, _, _, _, _, _, _, _, _, _, _, _, _, rfl, rfl, hO, hS, hU, hUn, hSl, hPd, h18⟩
  · have hno := h_2
    refine w_iconst (nx := 14) C (-1) dX9_ofTrigger_13 rfl (by decide) ?_
    have ho9 : o_ofTrigger X qi qw = ((-1), X) := by unfold o_ofTrigger; rw [if_pos hno]
    refine w_iret (ty := .int) C E dX9_ofTrigger_14 rfl rfl (Nat.le_refl _) (Nat.le_refl _) ?_
    rw [ho9]
    exact ⟨_, rfl, rfl, _, _, _, _, _, _, _, _, _, _, _, _, _, _, _, _, _, _, _, _, _, _, _, _, _, _, _, rfl, rfl, hO, hS, hU, hUn, hSl, hPd, h18⟩
set_option maxHeartbeats 4000000 in
set_option maxRecDepth 100000 in
theorem c_X9_count (l : Launch) (G : GG) (h : Nat) (w : va_W) (X : SX) (qw : Int32) (hRX : RMX G h w X) : MT l G yX9_count cX9_count 2 (some .int) 4 0 0 [.ref h, .int qw] ((w)) (fun v9 ws9 => ∃ (w2 : va_W), v9 = some (.int ((o_count X qw).1)) ∧ ws9 = ((w2)) ∧ RMX G h w2 (o_count X qw).2) := by
  refine RMX_elim hRX (fun a v f1 f2 f3 f5 f6 f7 f17 f21 f22 f23 f24 f25 f26 f27 f28 f29 f31 f32 f33 f34 f35 f36 f37 f38 f41 hw9 hh hO hS hU hUn hSl hPd h18 => ?_)
  subst hw9
  subst hh
  refine MT.of RX9 [(0, .ref (a 0)), (1, .int qw)] (by decide +kernel) rfl rfl (Nat.le_of_ble_eq_true rfl) (fun κ C E hl9 hG9 hnm9 => ?_)
  subst hl9; subst hG9
  have hn12 := hO.1.2.2.2.1.1
  have hj100 := hO.1.2.2.2.2
  have hz6 := hO.2.1.1
  have hp60 := hO.2.2.2.1
  have hd8 := hO.1.1
  have hl1 := hO.1.2.1
  have hzT := hO.1.2.2.1
  refine w_aload_n (nx := 1) C 0 dX9_count_0 rfl rfl rfl ?_
  refine w_iconst (nx := 2) C (nI 0) dX9_count_1 rfl (by decide) ?_
  refine w_putM (nx := 5) (ws2 := [(a 0, mO a (upd v 0 (nI 0))), (a 1, aI (kG κ) 800 f1), (a 2, aI (kG κ) 800 f2), (a 3, aI (kG κ) 4800 f3), (a 5, aI (kG κ) 1600 f5), (a 6, aZ (kG κ) 2 f6), (a 7, aI (kG κ) 60 f7), (a 17, aI (kG κ) 12 f17), (a 21, aI (kG κ) 12 f21), (a 22, aI (kG κ) 12 f22), (a 23, aI (kG κ) 12 f23), (a 24, aI (kG κ) 12 f24), (a 25, aI (kG κ) 12 f25), (a 26, aI (kG κ) 12 f26), (a 27, aI (kG κ) 12 f27), (a 28, aI (kG κ) 12 f28), (a 29, aZ (kG κ) 4 f29), (a 31, aI (kG κ) 1300 f31), (a 32, aI (kG κ) 1300 f32), (a 33, aI (kG κ) 1300 f33), (a 34, aI (kG κ) 1300 f34), (a 35, aI (kG κ) 13000 f35), (a 36, aI (kG κ) 606 f36), (a 37, aI (kG κ) 12 f37), (a 38, aI (kG κ) 12 f38), (a 41, aI (kG κ) 64 f41)]) C 0 0 dX9_count_2 rfl wl_X9_90 rfl (by decide) rfl rfl rfl (ms_0 _ _ _) rfl ?_
  rcases wi12 qw with rfl | rfl | rfl | rfl | rfl | rfl | rfl | rfl | rfl | rfl | rfl | rfl | hno
  · show WW κ 0 0 [(a 0, mO a (upd v 0 (nI 0))), (a 1, aI (kG κ) 800 f1), (a 2, aI (kG κ) 800 f2), (a 3, aI (kG κ) 4800 f3), (a 5, aI (kG κ) 1600 f5), (a 6, aZ (kG κ) 2 f6), (a 7, aI (kG κ) 60 f7), (a 17, aI (kG κ) 12 f17), (a 21, aI (kG κ) 12 f21), (a 22, aI (kG κ) 12 f22), (a 23, aI (kG κ) 12 f23), (a 24, aI (kG κ) 12 f24), (a 25, aI (kG κ) 12 f25), (a 26, aI (kG κ) 12 f26), (a 27, aI (kG κ) 12 f27), (a 28, aI (kG κ) 12 f28), (a 29, aZ (kG κ) 4 f29), (a 31, aI (kG κ) 1300 f31), (a 32, aI (kG κ) 1300 f32), (a 33, aI (kG κ) 1300 f33), (a 34, aI (kG κ) 1300 f34), (a 35, aI (kG κ) 13000 f35), (a 36, aI (kG κ) 606 f36), (a 37, aI (kG κ) 12 f37), (a 38, aI (kG κ) 12 f38), (a 41, aI (kG κ) 64 f41)] 5 [(0, .ref (a 0)), (1, .int (nI 0))] []
    refine w_iload_n (nx := 6) C 1 dX9_count_5 rfl rfl rfl ?_
    refine w_tableOut (nx := 103) C dX9_count_6 (by decide) rfl ?_
    refine w_iload_n (nx := 104) C 1 dX9_count_103 rfl rfl rfl ?_
    refine w_callS (nx := 107) (wr := [(a 0, mO a (upd v 0 (nI 0))), (a 1, aI (kG κ) 800 f1), (a 2, aI (kG κ) 800 f2), (a 3, aI (kG κ) 4800 f3), (a 5, aI (kG κ) 1600 f5), (a 6, aZ (kG κ) 2 f6), (a 7, aI (kG κ) 60 f7), (a 17, aI (kG κ) 12 f17), (a 21, aI (kG κ) 12 f21), (a 22, aI (kG κ) 12 f22), (a 23, aI (kG κ) 12 f23), (a 24, aI (kG κ) 12 f24), (a 25, aI (kG κ) 12 f25), (a 26, aI (kG κ) 12 f26), (a 27, aI (kG κ) 12 f27), (a 28, aI (kG κ) 12 f28), (a 29, aZ (kG κ) 4 f29), (a 31, aI (kG κ) 1300 f31), (a 32, aI (kG κ) 1300 f32), (a 33, aI (kG κ) 1300 f33), (a 34, aI (kG κ) 1300 f34), (a 35, aI (kG κ) 13000 f35), (a 36, aI (kG κ) 606 f36), (a 37, aI (kG κ) 12 f37), (a 38, aI (kG κ) 12 f38), (a 41, aI (kG κ) 64 f41)]) (rest := []) C ms_X9_isTable (c_X9_isTable _ _ (nI 0)) dX9_count_104 rfl wl_X9_201 rfl (pm_sel [0, 1, 2, 3, 4, 5, 6, 7, 8, 9, 10, 11, 12, 13, 14, 15, 16, 17, 18, 19, 20, 21, 22, 23, 24, 25] 26 (by decide +kernel) rfl rfl) rfl rfl (Nat.le_of_ble_eq_true rfl) (Nat.le_of_ble_eq_true rfl) (Nat.le_of_ble_eq_true rfl) (Nat.zero_le _) (Nat.zero_le _) (fun v9 w9 R_1 => ?_)
    obtain ⟨rfl, rfl⟩ := R_1
    show WW κ 0 0 [(a 0, mO a (upd v 0 (nI 0))), (a 1, aI (kG κ) 800 f1), (a 2, aI (kG κ) 800 f2), (a 3, aI (kG κ) 4800 f3), (a 5, aI (kG κ) 1600 f5), (a 6, aZ (kG κ) 2 f6), (a 7, aI (kG κ) 60 f7), (a 17, aI (kG κ) 12 f17), (a 21, aI (kG κ) 12 f21), (a 22, aI (kG κ) 12 f22), (a 23, aI (kG κ) 12 f23), (a 24, aI (kG κ) 12 f24), (a 25, aI (kG κ) 12 f25), (a 26, aI (kG κ) 12 f26), (a 27, aI (kG κ) 12 f27), (a 28, aI (kG κ) 12 f28), (a 29, aZ (kG κ) 4 f29), (a 31, aI (kG κ) 1300 f31), (a 32, aI (kG κ) 1300 f32), (a 33, aI (kG κ) 1300 f33), (a 34, aI (kG κ) 1300 f34), (a 35, aI (kG κ) 13000 f35), (a 36, aI (kG κ) 606 f36), (a 37, aI (kG κ) 12 f37), (a 38, aI (kG κ) 12 f38), (a 41, aI (kG κ) 64 f41)] 107 [(0, .ref (a 0)), (1, .int (nI 0))] [.int (bC (wi (nI 0) 4))]
    refine b_if_eq (tg := 118) (nx := 110) C dX9_count_107 rfl rfl (fun h_2 => ?_) (fun h_2 => ?_)
    · exact absurd ⟨0, by decide, rfl⟩ h_2
    · refine w_aload_n (nx := 111) C 0 dX9_count_110 rfl rfl rfl ?_
      refine w_iload_n (nx := 112) C 1 dX9_count_111 rfl rfl rfl ?_
      refine w_callV (nx := 115) (wr := [(a 2, aI (kG κ) 800 f2), (a 3, aI (kG κ) 4800 f3), (a 5, aI (kG κ) 1600 f5), (a 6, aZ (kG κ) 2 f6), (a 7, aI (kG κ) 60 f7), (a 17, aI (kG κ) 12 f17), (a 21, aI (kG κ) 12 f21), (a 22, aI (kG κ) 12 f22), (a 23, aI (kG κ) 12 f23), (a 24, aI (kG κ) 12 f24), (a 25, aI (kG κ) 12 f25), (a 26, aI (kG κ) 12 f26), (a 27, aI (kG κ) 12 f27), (a 28, aI (kG κ) 12 f28), (a 29, aZ (kG κ) 4 f29), (a 31, aI (kG κ) 1300 f31), (a 32, aI (kG κ) 1300 f32), (a 33, aI (kG κ) 1300 f33), (a 34, aI (kG κ) 1300 f34), (a 35, aI (kG κ) 13000 f35), (a 36, aI (kG κ) 606 f36), (a 37, aI (kG κ) 12 f37), (a 38, aI (kG κ) 12 f38), (a 41, aI (kG κ) 64 f41)]) (rest := []) C mi_X9_rows (c_X9_rows _ _ a (upd v 0 (nI 0)) f1 (sT (xS X)) 0 (hS.2.2.1) (hO.1.2.2.1) (by first | assumption | omega)) 0 dX9_count_112 rfl wl_X9_100 rfl rfl rfl (pm_sel [0, 1, 2, 3, 4, 5, 6, 7, 8, 9, 10, 11, 12, 13, 14, 15, 16, 17, 18, 19, 20, 21, 22, 23, 24, 25] 26 (by decide +kernel) rfl rfl) rfl rfl (Nat.le_of_ble_eq_true rfl) (Nat.le_of_ble_eq_true rfl) (Nat.le_of_ble_eq_true rfl) (Nat.zero_le _) (Nat.zero_le _) (fun v9 w9 R_3 => ?_)
      obtain ⟨rfl, rfl⟩ := R_3
      show WW κ 0 0 [(a 0, mO a (upd v 0 (nI 0))), (a 1, aI (kG κ) 800 f1), (a 2, aI (kG κ) 800 f2), (a 3, aI (kG κ) 4800 f3), (a 5, aI (kG κ) 1600 f5), (a 6, aZ (kG κ) 2 f6), (a 7, aI (kG κ) 60 f7), (a 17, aI (kG κ) 12 f17), (a 21, aI (kG κ) 12 f21), (a 22, aI (kG κ) 12 f22), (a 23, aI (kG κ) 12 f23), (a 24, aI (kG κ) 12 f24), (a 25, aI (kG κ) 12 f25), (a 26, aI (kG κ) 12 f26), (a 27, aI (kG κ) 12 f27), (a 28, aI (kG κ) 12 f28), (a 29, aZ (kG κ) 4 f29), (a 31, aI (kG κ) 1300 f31), (a 32, aI (kG κ) 1300 f32), (a 33, aI (kG κ) 1300 f33), (a 34, aI (kG κ) 1300 f34), (a 35, aI (kG κ) 13000 f35), (a 36, aI (kG κ) 606 f36), (a 37, aI (kG κ) 12 f37), (a 38, aI (kG κ) 12 f38), (a 41, aI (kG κ) 64 f41)] 115 [(0, .ref (a 0)), (1, .int (nI 0))] [.int (nI (zT (sT (xS X)) 0))]
      refine w_goto (nx := 120) C dX9_count_115 rfl ?_
      have ho9 : o_count X (nI 0) = ((nI (zT (sT (xS X)) 0)), X) := by unfold o_count; rw [if_pos ⟨0, by decide, rfl⟩, tn_nI (by decide)]; rfl
      refine w_iret (ty := .int) C E dX9_count_120 rfl rfl (Nat.le_refl _) (Nat.le_refl _) ?_
      rw [ho9]
      exact ⟨_, rfl, rfl, _, _, _, _, _, _, _, _, _, _, _, _, _, _, _, _, _, _, _, _, _, _, _, _, _, _, _, rfl, rfl, hO, hS, hU, hUn, hSl, hPd, h18⟩
  · show WW κ 0 0 [(a 0, mO a (upd v 0 (nI 0))), (a 1, aI (kG κ) 800 f1), (a 2, aI (kG κ) 800 f2), (a 3, aI (kG κ) 4800 f3), (a 5, aI (kG κ) 1600 f5), (a 6, aZ (kG κ) 2 f6), (a 7, aI (kG κ) 60 f7), (a 17, aI (kG κ) 12 f17), (a 21, aI (kG κ) 12 f21), (a 22, aI (kG κ) 12 f22), (a 23, aI (kG κ) 12 f23), (a 24, aI (kG κ) 12 f24), (a 25, aI (kG κ) 12 f25), (a 26, aI (kG κ) 12 f26), (a 27, aI (kG κ) 12 f27), (a 28, aI (kG κ) 12 f28), (a 29, aZ (kG κ) 4 f29), (a 31, aI (kG κ) 1300 f31), (a 32, aI (kG κ) 1300 f32), (a 33, aI (kG κ) 1300 f33), (a 34, aI (kG κ) 1300 f34), (a 35, aI (kG κ) 13000 f35), (a 36, aI (kG κ) 606 f36), (a 37, aI (kG κ) 12 f37), (a 38, aI (kG κ) 12 f38), (a 41, aI (kG κ) 64 f41)] 5 [(0, .ref (a 0)), (1, .int (nI 1))] []
    refine w_iload_n (nx := 6) C 1 dX9_count_5 rfl rfl rfl ?_
    refine w_tableOut (nx := 103) C dX9_count_6 (by decide) rfl ?_
    refine w_iload_n (nx := 104) C 1 dX9_count_103 rfl rfl rfl ?_
    refine w_callS (nx := 107) (wr := [(a 0, mO a (upd v 0 (nI 0))), (a 1, aI (kG κ) 800 f1), (a 2, aI (kG κ) 800 f2), (a 3, aI (kG κ) 4800 f3), (a 5, aI (kG κ) 1600 f5), (a 6, aZ (kG κ) 2 f6), (a 7, aI (kG κ) 60 f7), (a 17, aI (kG κ) 12 f17), (a 21, aI (kG κ) 12 f21), (a 22, aI (kG κ) 12 f22), (a 23, aI (kG κ) 12 f23), (a 24, aI (kG κ) 12 f24), (a 25, aI (kG κ) 12 f25), (a 26, aI (kG κ) 12 f26), (a 27, aI (kG κ) 12 f27), (a 28, aI (kG κ) 12 f28), (a 29, aZ (kG κ) 4 f29), (a 31, aI (kG κ) 1300 f31), (a 32, aI (kG κ) 1300 f32), (a 33, aI (kG κ) 1300 f33), (a 34, aI (kG κ) 1300 f34), (a 35, aI (kG κ) 13000 f35), (a 36, aI (kG κ) 606 f36), (a 37, aI (kG κ) 12 f37), (a 38, aI (kG κ) 12 f38), (a 41, aI (kG κ) 64 f41)]) (rest := []) C ms_X9_isTable (c_X9_isTable _ _ (nI 1)) dX9_count_104 rfl wl_X9_201 rfl (pm_sel [0, 1, 2, 3, 4, 5, 6, 7, 8, 9, 10, 11, 12, 13, 14, 15, 16, 17, 18, 19, 20, 21, 22, 23, 24, 25] 26 (by decide +kernel) rfl rfl) rfl rfl (Nat.le_of_ble_eq_true rfl) (Nat.le_of_ble_eq_true rfl) (Nat.le_of_ble_eq_true rfl) (Nat.zero_le _) (Nat.zero_le _) (fun v9 w9 R_4 => ?_)
    obtain ⟨rfl, rfl⟩ := R_4
    show WW κ 0 0 [(a 0, mO a (upd v 0 (nI 0))), (a 1, aI (kG κ) 800 f1), (a 2, aI (kG κ) 800 f2), (a 3, aI (kG κ) 4800 f3), (a 5, aI (kG κ) 1600 f5), (a 6, aZ (kG κ) 2 f6), (a 7, aI (kG κ) 60 f7), (a 17, aI (kG κ) 12 f17), (a 21, aI (kG κ) 12 f21), (a 22, aI (kG κ) 12 f22), (a 23, aI (kG κ) 12 f23), (a 24, aI (kG κ) 12 f24), (a 25, aI (kG κ) 12 f25), (a 26, aI (kG κ) 12 f26), (a 27, aI (kG κ) 12 f27), (a 28, aI (kG κ) 12 f28), (a 29, aZ (kG κ) 4 f29), (a 31, aI (kG κ) 1300 f31), (a 32, aI (kG κ) 1300 f32), (a 33, aI (kG κ) 1300 f33), (a 34, aI (kG κ) 1300 f34), (a 35, aI (kG κ) 13000 f35), (a 36, aI (kG κ) 606 f36), (a 37, aI (kG κ) 12 f37), (a 38, aI (kG κ) 12 f38), (a 41, aI (kG κ) 64 f41)] 107 [(0, .ref (a 0)), (1, .int (nI 1))] [.int (bC (wi (nI 1) 4))]
    refine b_if_eq (tg := 118) (nx := 110) C dX9_count_107 rfl rfl (fun h_5 => ?_) (fun h_5 => ?_)
    · exact absurd ⟨1, by decide, rfl⟩ h_5
    · refine w_aload_n (nx := 111) C 0 dX9_count_110 rfl rfl rfl ?_
      refine w_iload_n (nx := 112) C 1 dX9_count_111 rfl rfl rfl ?_
      refine w_callV (nx := 115) (wr := [(a 2, aI (kG κ) 800 f2), (a 3, aI (kG κ) 4800 f3), (a 5, aI (kG κ) 1600 f5), (a 6, aZ (kG κ) 2 f6), (a 7, aI (kG κ) 60 f7), (a 17, aI (kG κ) 12 f17), (a 21, aI (kG κ) 12 f21), (a 22, aI (kG κ) 12 f22), (a 23, aI (kG κ) 12 f23), (a 24, aI (kG κ) 12 f24), (a 25, aI (kG κ) 12 f25), (a 26, aI (kG κ) 12 f26), (a 27, aI (kG κ) 12 f27), (a 28, aI (kG κ) 12 f28), (a 29, aZ (kG κ) 4 f29), (a 31, aI (kG κ) 1300 f31), (a 32, aI (kG κ) 1300 f32), (a 33, aI (kG κ) 1300 f33), (a 34, aI (kG κ) 1300 f34), (a 35, aI (kG κ) 13000 f35), (a 36, aI (kG κ) 606 f36), (a 37, aI (kG κ) 12 f37), (a 38, aI (kG κ) 12 f38), (a 41, aI (kG κ) 64 f41)]) (rest := []) C mi_X9_rows (c_X9_rows _ _ a (upd v 0 (nI 0)) f1 (sT (xS X)) 1 (hS.2.2.1) (hO.1.2.2.1) (by first | assumption | omega)) 0 dX9_count_112 rfl wl_X9_100 rfl rfl rfl (pm_sel [0, 1, 2, 3, 4, 5, 6, 7, 8, 9, 10, 11, 12, 13, 14, 15, 16, 17, 18, 19, 20, 21, 22, 23, 24, 25] 26 (by decide +kernel) rfl rfl) rfl rfl (Nat.le_of_ble_eq_true rfl) (Nat.le_of_ble_eq_true rfl) (Nat.le_of_ble_eq_true rfl) (Nat.zero_le _) (Nat.zero_le _) (fun v9 w9 R_6 => ?_)
      obtain ⟨rfl, rfl⟩ := R_6
      show WW κ 0 0 [(a 0, mO a (upd v 0 (nI 0))), (a 1, aI (kG κ) 800 f1), (a 2, aI (kG κ) 800 f2), (a 3, aI (kG κ) 4800 f3), (a 5, aI (kG κ) 1600 f5), (a 6, aZ (kG κ) 2 f6), (a 7, aI (kG κ) 60 f7), (a 17, aI (kG κ) 12 f17), (a 21, aI (kG κ) 12 f21), (a 22, aI (kG κ) 12 f22), (a 23, aI (kG κ) 12 f23), (a 24, aI (kG κ) 12 f24), (a 25, aI (kG κ) 12 f25), (a 26, aI (kG κ) 12 f26), (a 27, aI (kG κ) 12 f27), (a 28, aI (kG κ) 12 f28), (a 29, aZ (kG κ) 4 f29), (a 31, aI (kG κ) 1300 f31), (a 32, aI (kG κ) 1300 f32), (a 33, aI (kG κ) 1300 f33), (a 34, aI (kG κ) 1300 f34), (a 35, aI (kG κ) 13000 f35), (a 36, aI (kG κ) 606 f36), (a 37, aI (kG κ) 12 f37), (a 38, aI (kG κ) 12 f38), (a 41, aI (kG κ) 64 f41)] 115 [(0, .ref (a 0)), (1, .int (nI 1))] [.int (nI (zT (sT (xS X)) 1))]
      refine w_goto (nx := 120) C dX9_count_115 rfl ?_
      have ho9 : o_count X (nI 1) = ((nI (zT (sT (xS X)) 1)), X) := by unfold o_count; rw [if_pos ⟨1, by decide, rfl⟩, tn_nI (by decide)]; rfl
      refine w_iret (ty := .int) C E dX9_count_120 rfl rfl (Nat.le_refl _) (Nat.le_refl _) ?_
      rw [ho9]
      exact ⟨_, rfl, rfl, _, _, _, _, _, _, _, _, _, _, _, _, _, _, _, _, _, _, _, _, _, _, _, _, _, _, _, rfl, rfl, hO, hS, hU, hUn, hSl, hPd, h18⟩
  · show WW κ 0 0 [(a 0, mO a (upd v 0 (nI 0))), (a 1, aI (kG κ) 800 f1), (a 2, aI (kG κ) 800 f2), (a 3, aI (kG κ) 4800 f3), (a 5, aI (kG κ) 1600 f5), (a 6, aZ (kG κ) 2 f6), (a 7, aI (kG κ) 60 f7), (a 17, aI (kG κ) 12 f17), (a 21, aI (kG κ) 12 f21), (a 22, aI (kG κ) 12 f22), (a 23, aI (kG κ) 12 f23), (a 24, aI (kG κ) 12 f24), (a 25, aI (kG κ) 12 f25), (a 26, aI (kG κ) 12 f26), (a 27, aI (kG κ) 12 f27), (a 28, aI (kG κ) 12 f28), (a 29, aZ (kG κ) 4 f29), (a 31, aI (kG κ) 1300 f31), (a 32, aI (kG κ) 1300 f32), (a 33, aI (kG κ) 1300 f33), (a 34, aI (kG κ) 1300 f34), (a 35, aI (kG κ) 13000 f35), (a 36, aI (kG κ) 606 f36), (a 37, aI (kG κ) 12 f37), (a 38, aI (kG κ) 12 f38), (a 41, aI (kG κ) 64 f41)] 5 [(0, .ref (a 0)), (1, .int (nI 2))] []
    refine w_iload_n (nx := 6) C 1 dX9_count_5 rfl rfl rfl ?_
    refine w_tableOut (nx := 103) C dX9_count_6 (by decide) rfl ?_
    refine w_iload_n (nx := 104) C 1 dX9_count_103 rfl rfl rfl ?_
    refine w_callS (nx := 107) (wr := [(a 0, mO a (upd v 0 (nI 0))), (a 1, aI (kG κ) 800 f1), (a 2, aI (kG κ) 800 f2), (a 3, aI (kG κ) 4800 f3), (a 5, aI (kG κ) 1600 f5), (a 6, aZ (kG κ) 2 f6), (a 7, aI (kG κ) 60 f7), (a 17, aI (kG κ) 12 f17), (a 21, aI (kG κ) 12 f21), (a 22, aI (kG κ) 12 f22), (a 23, aI (kG κ) 12 f23), (a 24, aI (kG κ) 12 f24), (a 25, aI (kG κ) 12 f25), (a 26, aI (kG κ) 12 f26), (a 27, aI (kG κ) 12 f27), (a 28, aI (kG κ) 12 f28), (a 29, aZ (kG κ) 4 f29), (a 31, aI (kG κ) 1300 f31), (a 32, aI (kG κ) 1300 f32), (a 33, aI (kG κ) 1300 f33), (a 34, aI (kG κ) 1300 f34), (a 35, aI (kG κ) 13000 f35), (a 36, aI (kG κ) 606 f36), (a 37, aI (kG κ) 12 f37), (a 38, aI (kG κ) 12 f38), (a 41, aI (kG κ) 64 f41)]) (rest := []) C ms_X9_isTable (c_X9_isTable _ _ (nI 2)) dX9_count_104 rfl wl_X9_201 rfl (pm_sel [0, 1, 2, 3, 4, 5, 6, 7, 8, 9, 10, 11, 12, 13, 14, 15, 16, 17, 18, 19, 20, 21, 22, 23, 24, 25] 26 (by decide +kernel) rfl rfl) rfl rfl (Nat.le_of_ble_eq_true rfl) (Nat.le_of_ble_eq_true rfl) (Nat.le_of_ble_eq_true rfl) (Nat.zero_le _) (Nat.zero_le _) (fun v9 w9 R_7 => ?_)
    obtain ⟨rfl, rfl⟩ := R_7
    show WW κ 0 0 [(a 0, mO a (upd v 0 (nI 0))), (a 1, aI (kG κ) 800 f1), (a 2, aI (kG κ) 800 f2), (a 3, aI (kG κ) 4800 f3), (a 5, aI (kG κ) 1600 f5), (a 6, aZ (kG κ) 2 f6), (a 7, aI (kG κ) 60 f7), (a 17, aI (kG κ) 12 f17), (a 21, aI (kG κ) 12 f21), (a 22, aI (kG κ) 12 f22), (a 23, aI (kG κ) 12 f23), (a 24, aI (kG κ) 12 f24), (a 25, aI (kG κ) 12 f25), (a 26, aI (kG κ) 12 f26), (a 27, aI (kG κ) 12 f27), (a 28, aI (kG κ) 12 f28), (a 29, aZ (kG κ) 4 f29), (a 31, aI (kG κ) 1300 f31), (a 32, aI (kG κ) 1300 f32), (a 33, aI (kG κ) 1300 f33), (a 34, aI (kG κ) 1300 f34), (a 35, aI (kG κ) 13000 f35), (a 36, aI (kG κ) 606 f36), (a 37, aI (kG κ) 12 f37), (a 38, aI (kG κ) 12 f38), (a 41, aI (kG κ) 64 f41)] 107 [(0, .ref (a 0)), (1, .int (nI 2))] [.int (bC (wi (nI 2) 4))]
    refine b_if_eq (tg := 118) (nx := 110) C dX9_count_107 rfl rfl (fun h_8 => ?_) (fun h_8 => ?_)
    · exact absurd ⟨2, by decide, rfl⟩ h_8
    · refine w_aload_n (nx := 111) C 0 dX9_count_110 rfl rfl rfl ?_
      refine w_iload_n (nx := 112) C 1 dX9_count_111 rfl rfl rfl ?_
      refine w_callV (nx := 115) (wr := [(a 2, aI (kG κ) 800 f2), (a 3, aI (kG κ) 4800 f3), (a 5, aI (kG κ) 1600 f5), (a 6, aZ (kG κ) 2 f6), (a 7, aI (kG κ) 60 f7), (a 17, aI (kG κ) 12 f17), (a 21, aI (kG κ) 12 f21), (a 22, aI (kG κ) 12 f22), (a 23, aI (kG κ) 12 f23), (a 24, aI (kG κ) 12 f24), (a 25, aI (kG κ) 12 f25), (a 26, aI (kG κ) 12 f26), (a 27, aI (kG κ) 12 f27), (a 28, aI (kG κ) 12 f28), (a 29, aZ (kG κ) 4 f29), (a 31, aI (kG κ) 1300 f31), (a 32, aI (kG κ) 1300 f32), (a 33, aI (kG κ) 1300 f33), (a 34, aI (kG κ) 1300 f34), (a 35, aI (kG κ) 13000 f35), (a 36, aI (kG κ) 606 f36), (a 37, aI (kG κ) 12 f37), (a 38, aI (kG κ) 12 f38), (a 41, aI (kG κ) 64 f41)]) (rest := []) C mi_X9_rows (c_X9_rows _ _ a (upd v 0 (nI 0)) f1 (sT (xS X)) 2 (hS.2.2.1) (hO.1.2.2.1) (by first | assumption | omega)) 0 dX9_count_112 rfl wl_X9_100 rfl rfl rfl (pm_sel [0, 1, 2, 3, 4, 5, 6, 7, 8, 9, 10, 11, 12, 13, 14, 15, 16, 17, 18, 19, 20, 21, 22, 23, 24, 25] 26 (by decide +kernel) rfl rfl) rfl rfl (Nat.le_of_ble_eq_true rfl) (Nat.le_of_ble_eq_true rfl) (Nat.le_of_ble_eq_true rfl) (Nat.zero_le _) (Nat.zero_le _) (fun v9 w9 R_9 => ?_)
      obtain ⟨rfl, rfl⟩ := R_9
      show WW κ 0 0 [(a 0, mO a (upd v 0 (nI 0))), (a 1, aI (kG κ) 800 f1), (a 2, aI (kG κ) 800 f2), (a 3, aI (kG κ) 4800 f3), (a 5, aI (kG κ) 1600 f5), (a 6, aZ (kG κ) 2 f6), (a 7, aI (kG κ) 60 f7), (a 17, aI (kG κ) 12 f17), (a 21, aI (kG κ) 12 f21), (a 22, aI (kG κ) 12 f22), (a 23, aI (kG κ) 12 f23), (a 24, aI (kG κ) 12 f24), (a 25, aI (kG κ) 12 f25), (a 26, aI (kG κ) 12 f26), (a 27, aI (kG κ) 12 f27), (a 28, aI (kG κ) 12 f28), (a 29, aZ (kG κ) 4 f29), (a 31, aI (kG κ) 1300 f31), (a 32, aI (kG κ) 1300 f32), (a 33, aI (kG κ) 1300 f33), (a 34, aI (kG κ) 1300 f34), (a 35, aI (kG κ) 13000 f35), (a 36, aI (kG κ) 606 f36), (a 37, aI (kG κ) 12 f37), (a 38, aI (kG κ) 12 f38), (a 41, aI (kG κ) 64 f41)] 115 [(0, .ref (a 0)), (1, .int (nI 2))] [.int (nI (zT (sT (xS X)) 2))]
      refine w_goto (nx := 120) C dX9_count_115 rfl ?_
      have ho9 : o_count X (nI 2) = ((nI (zT (sT (xS X)) 2)), X) := by unfold o_count; rw [if_pos ⟨2, by decide, rfl⟩, tn_nI (by decide)]; rfl
      refine w_iret (ty := .int) C E dX9_count_120 rfl rfl (Nat.le_refl _) (Nat.le_refl _) ?_
      rw [ho9]
      exact ⟨_, rfl, rfl, _, _, _, _, _, _, _, _, _, _, _, _, _, _, _, _, _, _, _, _, _, _, _, _, _, _, _, rfl, rfl, hO, hS, hU, hUn, hSl, hPd, h18⟩
  · show WW κ 0 0 [(a 0, mO a (upd v 0 (nI 0))), (a 1, aI (kG κ) 800 f1), (a 2, aI (kG κ) 800 f2), (a 3, aI (kG κ) 4800 f3), (a 5, aI (kG κ) 1600 f5), (a 6, aZ (kG κ) 2 f6), (a 7, aI (kG κ) 60 f7), (a 17, aI (kG κ) 12 f17), (a 21, aI (kG κ) 12 f21), (a 22, aI (kG κ) 12 f22), (a 23, aI (kG κ) 12 f23), (a 24, aI (kG κ) 12 f24), (a 25, aI (kG κ) 12 f25), (a 26, aI (kG κ) 12 f26), (a 27, aI (kG κ) 12 f27), (a 28, aI (kG κ) 12 f28), (a 29, aZ (kG κ) 4 f29), (a 31, aI (kG κ) 1300 f31), (a 32, aI (kG κ) 1300 f32), (a 33, aI (kG κ) 1300 f33), (a 34, aI (kG κ) 1300 f34), (a 35, aI (kG κ) 13000 f35), (a 36, aI (kG κ) 606 f36), (a 37, aI (kG κ) 12 f37), (a 38, aI (kG κ) 12 f38), (a 41, aI (kG κ) 64 f41)] 5 [(0, .ref (a 0)), (1, .int (nI 3))] []
    refine w_iload_n (nx := 6) C 1 dX9_count_5 rfl rfl rfl ?_
    refine w_tableOut (nx := 103) C dX9_count_6 (by decide) rfl ?_
    refine w_iload_n (nx := 104) C 1 dX9_count_103 rfl rfl rfl ?_
    refine w_callS (nx := 107) (wr := [(a 0, mO a (upd v 0 (nI 0))), (a 1, aI (kG κ) 800 f1), (a 2, aI (kG κ) 800 f2), (a 3, aI (kG κ) 4800 f3), (a 5, aI (kG κ) 1600 f5), (a 6, aZ (kG κ) 2 f6), (a 7, aI (kG κ) 60 f7), (a 17, aI (kG κ) 12 f17), (a 21, aI (kG κ) 12 f21), (a 22, aI (kG κ) 12 f22), (a 23, aI (kG κ) 12 f23), (a 24, aI (kG κ) 12 f24), (a 25, aI (kG κ) 12 f25), (a 26, aI (kG κ) 12 f26), (a 27, aI (kG κ) 12 f27), (a 28, aI (kG κ) 12 f28), (a 29, aZ (kG κ) 4 f29), (a 31, aI (kG κ) 1300 f31), (a 32, aI (kG κ) 1300 f32), (a 33, aI (kG κ) 1300 f33), (a 34, aI (kG κ) 1300 f34), (a 35, aI (kG κ) 13000 f35), (a 36, aI (kG κ) 606 f36), (a 37, aI (kG κ) 12 f37), (a 38, aI (kG κ) 12 f38), (a 41, aI (kG κ) 64 f41)]) (rest := []) C ms_X9_isTable (c_X9_isTable _ _ (nI 3)) dX9_count_104 rfl wl_X9_201 rfl (pm_sel [0, 1, 2, 3, 4, 5, 6, 7, 8, 9, 10, 11, 12, 13, 14, 15, 16, 17, 18, 19, 20, 21, 22, 23, 24, 25] 26 (by decide +kernel) rfl rfl) rfl rfl (Nat.le_of_ble_eq_true rfl) (Nat.le_of_ble_eq_true rfl) (Nat.le_of_ble_eq_true rfl) (Nat.zero_le _) (Nat.zero_le _) (fun v9 w9 R_10 => ?_)
    obtain ⟨rfl, rfl⟩ := R_10
    show WW κ 0 0 [(a 0, mO a (upd v 0 (nI 0))), (a 1, aI (kG κ) 800 f1), (a 2, aI (kG κ) 800 f2), (a 3, aI (kG κ) 4800 f3), (a 5, aI (kG κ) 1600 f5), (a 6, aZ (kG κ) 2 f6), (a 7, aI (kG κ) 60 f7), (a 17, aI (kG κ) 12 f17), (a 21, aI (kG κ) 12 f21), (a 22, aI (kG κ) 12 f22), (a 23, aI (kG κ) 12 f23), (a 24, aI (kG κ) 12 f24), (a 25, aI (kG κ) 12 f25), (a 26, aI (kG κ) 12 f26), (a 27, aI (kG κ) 12 f27), (a 28, aI (kG κ) 12 f28), (a 29, aZ (kG κ) 4 f29), (a 31, aI (kG κ) 1300 f31), (a 32, aI (kG κ) 1300 f32), (a 33, aI (kG κ) 1300 f33), (a 34, aI (kG κ) 1300 f34), (a 35, aI (kG κ) 13000 f35), (a 36, aI (kG κ) 606 f36), (a 37, aI (kG κ) 12 f37), (a 38, aI (kG κ) 12 f38), (a 41, aI (kG κ) 64 f41)] 107 [(0, .ref (a 0)), (1, .int (nI 3))] [.int (bC (wi (nI 3) 4))]
    refine b_if_eq (tg := 118) (nx := 110) C dX9_count_107 rfl rfl (fun h_11 => ?_) (fun h_11 => ?_)
    · exact absurd ⟨3, by decide, rfl⟩ h_11
    · refine w_aload_n (nx := 111) C 0 dX9_count_110 rfl rfl rfl ?_
      refine w_iload_n (nx := 112) C 1 dX9_count_111 rfl rfl rfl ?_
      refine w_callV (nx := 115) (wr := [(a 2, aI (kG κ) 800 f2), (a 3, aI (kG κ) 4800 f3), (a 5, aI (kG κ) 1600 f5), (a 6, aZ (kG κ) 2 f6), (a 7, aI (kG κ) 60 f7), (a 17, aI (kG κ) 12 f17), (a 21, aI (kG κ) 12 f21), (a 22, aI (kG κ) 12 f22), (a 23, aI (kG κ) 12 f23), (a 24, aI (kG κ) 12 f24), (a 25, aI (kG κ) 12 f25), (a 26, aI (kG κ) 12 f26), (a 27, aI (kG κ) 12 f27), (a 28, aI (kG κ) 12 f28), (a 29, aZ (kG κ) 4 f29), (a 31, aI (kG κ) 1300 f31), (a 32, aI (kG κ) 1300 f32), (a 33, aI (kG κ) 1300 f33), (a 34, aI (kG κ) 1300 f34), (a 35, aI (kG κ) 13000 f35), (a 36, aI (kG κ) 606 f36), (a 37, aI (kG κ) 12 f37), (a 38, aI (kG κ) 12 f38), (a 41, aI (kG κ) 64 f41)]) (rest := []) C mi_X9_rows (c_X9_rows _ _ a (upd v 0 (nI 0)) f1 (sT (xS X)) 3 (hS.2.2.1) (hO.1.2.2.1) (by first | assumption | omega)) 0 dX9_count_112 rfl wl_X9_100 rfl rfl rfl (pm_sel [0, 1, 2, 3, 4, 5, 6, 7, 8, 9, 10, 11, 12, 13, 14, 15, 16, 17, 18, 19, 20, 21, 22, 23, 24, 25] 26 (by decide +kernel) rfl rfl) rfl rfl (Nat.le_of_ble_eq_true rfl) (Nat.le_of_ble_eq_true rfl) (Nat.le_of_ble_eq_true rfl) (Nat.zero_le _) (Nat.zero_le _) (fun v9 w9 R_12 => ?_)
      obtain ⟨rfl, rfl⟩ := R_12
      show WW κ 0 0 [(a 0, mO a (upd v 0 (nI 0))), (a 1, aI (kG κ) 800 f1), (a 2, aI (kG κ) 800 f2), (a 3, aI (kG κ) 4800 f3), (a 5, aI (kG κ) 1600 f5), (a 6, aZ (kG κ) 2 f6), (a 7, aI (kG κ) 60 f7), (a 17, aI (kG κ) 12 f17), (a 21, aI (kG κ) 12 f21), (a 22, aI (kG κ) 12 f22), (a 23, aI (kG κ) 12 f23), (a 24, aI (kG κ) 12 f24), (a 25, aI (kG κ) 12 f25), (a 26, aI (kG κ) 12 f26), (a 27, aI (kG κ) 12 f27), (a 28, aI (kG κ) 12 f28), (a 29, aZ (kG κ) 4 f29), (a 31, aI (kG κ) 1300 f31), (a 32, aI (kG κ) 1300 f32), (a 33, aI (kG κ) 1300 f33), (a 34, aI (kG κ) 1300 f34), (a 35, aI (kG κ) 13000 f35), (a 36, aI (kG κ) 606 f36), (a 37, aI (kG κ) 12 f37), (a 38, aI (kG κ) 12 f38), (a 41, aI (kG κ) 64 f41)] 115 [(0, .ref (a 0)), (1, .int (nI 3))] [.int (nI (zT (sT (xS X)) 3))]
      refine w_goto (nx := 120) C dX9_count_115 rfl ?_
      have ho9 : o_count X (nI 3) = ((nI (zT (sT (xS X)) 3)), X) := by unfold o_count; rw [if_pos ⟨3, by decide, rfl⟩, tn_nI (by decide)]; rfl
      refine w_iret (ty := .int) C E dX9_count_120 rfl rfl (Nat.le_refl _) (Nat.le_refl _) ?_
      rw [ho9]
      exact ⟨_, rfl, rfl, _, _, _, _, _, _, _, _, _, _, _, _, _, _, _, _, _, _, _, _, _, _, _, _, _, _, _, rfl, rfl, hO, hS, hU, hUn, hSl, hPd, h18⟩
  · show WW κ 0 0 [(a 0, mO a (upd v 0 (nI 0))), (a 1, aI (kG κ) 800 f1), (a 2, aI (kG κ) 800 f2), (a 3, aI (kG κ) 4800 f3), (a 5, aI (kG κ) 1600 f5), (a 6, aZ (kG κ) 2 f6), (a 7, aI (kG κ) 60 f7), (a 17, aI (kG κ) 12 f17), (a 21, aI (kG κ) 12 f21), (a 22, aI (kG κ) 12 f22), (a 23, aI (kG κ) 12 f23), (a 24, aI (kG κ) 12 f24), (a 25, aI (kG κ) 12 f25), (a 26, aI (kG κ) 12 f26), (a 27, aI (kG κ) 12 f27), (a 28, aI (kG κ) 12 f28), (a 29, aZ (kG κ) 4 f29), (a 31, aI (kG κ) 1300 f31), (a 32, aI (kG κ) 1300 f32), (a 33, aI (kG κ) 1300 f33), (a 34, aI (kG κ) 1300 f34), (a 35, aI (kG κ) 13000 f35), (a 36, aI (kG κ) 606 f36), (a 37, aI (kG κ) 12 f37), (a 38, aI (kG κ) 12 f38), (a 41, aI (kG κ) 64 f41)] 5 [(0, .ref (a 0)), (1, .int (nI 4))] []
    refine w_iload_n (nx := 6) C 1 dX9_count_5 rfl rfl rfl ?_
    refine w_tableIn (nx := 52) C dX9_count_6 (by decide) (by decide) rfl rfl ?_
    refine w_aload_n (nx := 53) C 0 dX9_count_52 rfl rfl rfl ?_
    refine w_getM (nx := 56) C (.ref (a 1)) 0 1 dX9_count_53 rfl wl_X9_7 rfl (by decide) rfl (mg_1 _ _) ?_
    refine w_bipush (nx := 58) C (nI 102) dX9_count_56 rfl (by decide) ?_
    refine w_iald (nx := 59) C (nI ((sR (xS X)).1)) 1 102 dX9_count_58 rfl rfl (by decide) rfl (by omega) hS.2.2.2.1.1 ?_
    have ho9 : o_count X (nI 4) = ((nI ((sR (xS X)).1)), X) := by unfold o_count; rw [if_pos ⟨4, by decide, rfl⟩, tn_nI (by decide)]; rfl
    refine w_iret (ty := .int) C E dX9_count_59 rfl rfl (Nat.le_refl _) (Nat.le_refl _) ?_
    rw [ho9]
    exact ⟨_, rfl, rfl, _, _, _, _, _, _, _, _, _, _, _, _, _, _, _, _, _, _, _, _, _, _, _, _, _, _, _, rfl, rfl, hO, hS, hU, hUn, hSl, hPd, h18⟩
  · show WW κ 0 0 [(a 0, mO a (upd v 0 (nI 0))), (a 1, aI (kG κ) 800 f1), (a 2, aI (kG κ) 800 f2), (a 3, aI (kG κ) 4800 f3), (a 5, aI (kG κ) 1600 f5), (a 6, aZ (kG κ) 2 f6), (a 7, aI (kG κ) 60 f7), (a 17, aI (kG κ) 12 f17), (a 21, aI (kG κ) 12 f21), (a 22, aI (kG κ) 12 f22), (a 23, aI (kG κ) 12 f23), (a 24, aI (kG κ) 12 f24), (a 25, aI (kG κ) 12 f25), (a 26, aI (kG κ) 12 f26), (a 27, aI (kG κ) 12 f27), (a 28, aI (kG κ) 12 f28), (a 29, aZ (kG κ) 4 f29), (a 31, aI (kG κ) 1300 f31), (a 32, aI (kG κ) 1300 f32), (a 33, aI (kG κ) 1300 f33), (a 34, aI (kG κ) 1300 f34), (a 35, aI (kG κ) 13000 f35), (a 36, aI (kG κ) 606 f36), (a 37, aI (kG κ) 12 f37), (a 38, aI (kG κ) 12 f38), (a 41, aI (kG κ) 64 f41)] 5 [(0, .ref (a 0)), (1, .int (nI 5))] []
    refine w_iload_n (nx := 6) C 1 dX9_count_5 rfl rfl rfl ?_
    refine w_tableIn (nx := 60) C dX9_count_6 (by decide) (by decide) rfl rfl ?_
    refine w_aload_n (nx := 61) C 0 dX9_count_60 rfl rfl rfl ?_
    refine w_getM (nx := 64) C (.ref (a 1)) 0 1 dX9_count_61 rfl wl_X9_7 rfl (by decide) rfl (mg_1 _ _) ?_
    refine w_sipush (nx := 67) C (nI 199) dX9_count_64 rfl (by decide) ?_
    refine w_iald (nx := 68) C (nI ((sJ (xS X)).1)) 1 199 dX9_count_67 rfl rfl (by decide) rfl (by omega) hS.2.2.2.2.1 ?_
    have ho9 : o_count X (nI 5) = ((nI ((sJ (xS X)).1)), X) := by unfold o_count; rw [if_pos ⟨5, by decide, rfl⟩, tn_nI (by decide)]; rfl
    refine w_iret (ty := .int) C E dX9_count_68 rfl rfl (Nat.le_refl _) (Nat.le_refl _) ?_
    rw [ho9]
    exact ⟨_, rfl, rfl, _, _, _, _, _, _, _, _, _, _, _, _, _, _, _, _, _, _, _, _, _, _, _, _, _, _, _, rfl, rfl, hO, hS, hU, hUn, hSl, hPd, h18⟩
  · show WW κ 0 0 [(a 0, mO a (upd v 0 (nI 0))), (a 1, aI (kG κ) 800 f1), (a 2, aI (kG κ) 800 f2), (a 3, aI (kG κ) 4800 f3), (a 5, aI (kG κ) 1600 f5), (a 6, aZ (kG κ) 2 f6), (a 7, aI (kG κ) 60 f7), (a 17, aI (kG κ) 12 f17), (a 21, aI (kG κ) 12 f21), (a 22, aI (kG κ) 12 f22), (a 23, aI (kG κ) 12 f23), (a 24, aI (kG κ) 12 f24), (a 25, aI (kG κ) 12 f25), (a 26, aI (kG κ) 12 f26), (a 27, aI (kG κ) 12 f27), (a 28, aI (kG κ) 12 f28), (a 29, aZ (kG κ) 4 f29), (a 31, aI (kG κ) 1300 f31), (a 32, aI (kG κ) 1300 f32), (a 33, aI (kG κ) 1300 f33), (a 34, aI (kG κ) 1300 f34), (a 35, aI (kG κ) 13000 f35), (a 36, aI (kG κ) 606 f36), (a 37, aI (kG κ) 12 f37), (a 38, aI (kG κ) 12 f38), (a 41, aI (kG κ) 64 f41)] 5 [(0, .ref (a 0)), (1, .int (nI 6))] []
    refine w_iload_n (nx := 6) C 1 dX9_count_5 rfl rfl rfl ?_
    refine w_tableIn (nx := 69) C dX9_count_6 (by decide) (by decide) rfl rfl ?_
    refine w_aload_n (nx := 70) C 0 dX9_count_69 rfl rfl rfl ?_
    refine w_callV (nx := 73) (wr := [(a 2, aI (kG κ) 800 f2), (a 3, aI (kG κ) 4800 f3), (a 5, aI (kG κ) 1600 f5), (a 6, aZ (kG κ) 2 f6), (a 7, aI (kG κ) 60 f7), (a 17, aI (kG κ) 12 f17), (a 21, aI (kG κ) 12 f21), (a 22, aI (kG κ) 12 f22), (a 23, aI (kG κ) 12 f23), (a 24, aI (kG κ) 12 f24), (a 25, aI (kG κ) 12 f25), (a 26, aI (kG κ) 12 f26), (a 27, aI (kG κ) 12 f27), (a 28, aI (kG κ) 12 f28), (a 29, aZ (kG κ) 4 f29), (a 31, aI (kG κ) 1300 f31), (a 32, aI (kG κ) 1300 f32), (a 33, aI (kG κ) 1300 f33), (a 34, aI (kG κ) 1300 f34), (a 35, aI (kG κ) 13000 f35), (a 36, aI (kG κ) 606 f36), (a 37, aI (kG κ) 12 f37), (a 38, aI (kG κ) 12 f38), (a 41, aI (kG κ) 64 f41)]) (rest := []) C mi_X9_sumOfNumbers (c_X9_sumOfNumbers _ _ a (upd v 0 (nI 0)) f1 (sT (xS X)) (hS.2.2.1) (hO.1.2.2.1)) 0 dX9_count_70 rfl wl_X9_224 rfl rfl rfl (pm_sel [0, 1, 2, 3, 4, 5, 6, 7, 8, 9, 10, 11, 12, 13, 14, 15, 16, 17, 18, 19, 20, 21, 22, 23, 24, 25] 26 (by decide +kernel) rfl rfl) rfl rfl (Nat.le_of_ble_eq_true rfl) (Nat.le_of_ble_eq_true rfl) (Nat.le_of_ble_eq_true rfl) (Nat.zero_le _) (Nat.zero_le _) (fun v9 w9 R_13 => ?_)
    obtain ⟨rfl, rfl⟩ := R_13
    show WW κ 0 0 [(a 0, mO a (upd v 0 (nI 0))), (a 1, aI (kG κ) 800 f1), (a 2, aI (kG κ) 800 f2), (a 3, aI (kG κ) 4800 f3), (a 5, aI (kG κ) 1600 f5), (a 6, aZ (kG κ) 2 f6), (a 7, aI (kG κ) 60 f7), (a 17, aI (kG κ) 12 f17), (a 21, aI (kG κ) 12 f21), (a 22, aI (kG κ) 12 f22), (a 23, aI (kG κ) 12 f23), (a 24, aI (kG κ) 12 f24), (a 25, aI (kG κ) 12 f25), (a 26, aI (kG κ) 12 f26), (a 27, aI (kG κ) 12 f27), (a 28, aI (kG κ) 12 f28), (a 29, aZ (kG κ) 4 f29), (a 31, aI (kG κ) 1300 f31), (a 32, aI (kG κ) 1300 f32), (a 33, aI (kG κ) 1300 f33), (a 34, aI (kG κ) 1300 f34), (a 35, aI (kG κ) 13000 f35), (a 36, aI (kG κ) 606 f36), (a 37, aI (kG κ) 12 f37), (a 38, aI (kG κ) 12 f38), (a 41, aI (kG κ) 64 f41)] 73 [(0, .ref (a 0)), (1, .int (nI 6))] [.int (nI (sumT (sT (xS X)) 4))]
    have ho9 : o_count X (nI 6) = ((nI (sumT (sT (xS X)) 4)), X) := by unfold o_count; rw [if_pos ⟨6, by decide, rfl⟩, tn_nI (by decide)]; rfl
    refine w_iret (ty := .int) C E dX9_count_73 rfl rfl (Nat.le_refl _) (Nat.le_refl _) ?_
    rw [ho9]
    exact ⟨_, rfl, rfl, _, _, _, _, _, _, _, _, _, _, _, _, _, _, _, _, _, _, _, _, _, _, _, _, _, _, _, rfl, rfl, hO, hS, hU, hUn, hSl, hPd, h18⟩
  · show WW κ 0 0 [(a 0, mO a (upd v 0 (nI 0))), (a 1, aI (kG κ) 800 f1), (a 2, aI (kG κ) 800 f2), (a 3, aI (kG κ) 4800 f3), (a 5, aI (kG κ) 1600 f5), (a 6, aZ (kG κ) 2 f6), (a 7, aI (kG κ) 60 f7), (a 17, aI (kG κ) 12 f17), (a 21, aI (kG κ) 12 f21), (a 22, aI (kG κ) 12 f22), (a 23, aI (kG κ) 12 f23), (a 24, aI (kG κ) 12 f24), (a 25, aI (kG κ) 12 f25), (a 26, aI (kG κ) 12 f26), (a 27, aI (kG κ) 12 f27), (a 28, aI (kG κ) 12 f28), (a 29, aZ (kG κ) 4 f29), (a 31, aI (kG κ) 1300 f31), (a 32, aI (kG κ) 1300 f32), (a 33, aI (kG κ) 1300 f33), (a 34, aI (kG κ) 1300 f34), (a 35, aI (kG κ) 13000 f35), (a 36, aI (kG κ) 606 f36), (a 37, aI (kG κ) 12 f37), (a 38, aI (kG κ) 12 f38), (a 41, aI (kG κ) 64 f41)] 5 [(0, .ref (a 0)), (1, .int (nI 7))] []
    refine w_iload_n (nx := 6) C 1 dX9_count_5 rfl rfl rfl ?_
    refine w_tableIn (nx := 74) C dX9_count_6 (by decide) (by decide) rfl rfl ?_
    refine w_aload_n (nx := 75) C 0 dX9_count_74 rfl rfl rfl ?_
    refine w_getM (nx := 78) C (.ref (a 1)) 0 1 dX9_count_75 rfl wl_X9_7 rfl (by decide) rfl (mg_1 _ _) ?_
    refine w_iconst (nx := 79) C (nI 0) dX9_count_78 rfl (by decide) ?_
    refine w_iald (nx := 80) C (nI (sD (xS X))) 1 0 dX9_count_79 rfl rfl (by decide) rfl (by omega) hS.1 ?_
    have ho9 : o_count X (nI 7) = ((nI (sD (xS X))), X) := by unfold o_count; rw [if_pos ⟨7, by decide, rfl⟩, tn_nI (by decide)]; rfl
    refine w_iret (ty := .int) C E dX9_count_80 rfl rfl (Nat.le_refl _) (Nat.le_refl _) ?_
    rw [ho9]
    exact ⟨_, rfl, rfl, _, _, _, _, _, _, _, _, _, _, _, _, _, _, _, _, _, _, _, _, _, _, _, _, _, _, _, rfl, rfl, hO, hS, hU, hUn, hSl, hPd, h18⟩
  · show WW κ 0 0 [(a 0, mO a (upd v 0 (nI 0))), (a 1, aI (kG κ) 800 f1), (a 2, aI (kG κ) 800 f2), (a 3, aI (kG κ) 4800 f3), (a 5, aI (kG κ) 1600 f5), (a 6, aZ (kG κ) 2 f6), (a 7, aI (kG κ) 60 f7), (a 17, aI (kG κ) 12 f17), (a 21, aI (kG κ) 12 f21), (a 22, aI (kG κ) 12 f22), (a 23, aI (kG κ) 12 f23), (a 24, aI (kG κ) 12 f24), (a 25, aI (kG κ) 12 f25), (a 26, aI (kG κ) 12 f26), (a 27, aI (kG κ) 12 f27), (a 28, aI (kG κ) 12 f28), (a 29, aZ (kG κ) 4 f29), (a 31, aI (kG κ) 1300 f31), (a 32, aI (kG κ) 1300 f32), (a 33, aI (kG κ) 1300 f33), (a 34, aI (kG κ) 1300 f34), (a 35, aI (kG κ) 13000 f35), (a 36, aI (kG κ) 606 f36), (a 37, aI (kG κ) 12 f37), (a 38, aI (kG κ) 12 f38), (a 41, aI (kG κ) 64 f41)] 5 [(0, .ref (a 0)), (1, .int (nI 8))] []
    refine w_iload_n (nx := 6) C 1 dX9_count_5 rfl rfl rfl ?_
    refine w_tableIn (nx := 81) C dX9_count_6 (by decide) (by decide) rfl rfl ?_
    refine w_aload_n (nx := 82) C 0 dX9_count_81 rfl rfl rfl ?_
    refine w_getM (nx := 85) C (.ref (a 1)) 0 1 dX9_count_82 rfl wl_X9_7 rfl (by decide) rfl (mg_1 _ _) ?_
    refine w_iconst (nx := 86) C (nI 1) dX9_count_85 rfl (by decide) ?_
    refine w_iald (nx := 87) C (nI (sL (xS X))) 1 1 dX9_count_86 rfl rfl (by decide) rfl (by omega) hS.2.1 ?_
    have ho9 : o_count X (nI 8) = ((nI (sL (xS X))), X) := by unfold o_count; rw [if_pos ⟨8, by decide, rfl⟩, tn_nI (by decide)]; rfl
    refine w_iret (ty := .int) C E dX9_count_87 rfl rfl (Nat.le_refl _) (Nat.le_refl _) ?_
    rw [ho9]
    exact ⟨_, rfl, rfl, _, _, _, _, _, _, _, _, _, _, _, _, _, _, _, _, _, _, _, _, _, _, _, _, _, _, _, rfl, rfl, hO, hS, hU, hUn, hSl, hPd, h18⟩
  · show WW κ 0 0 [(a 0, mO a (upd v 0 (nI 0))), (a 1, aI (kG κ) 800 f1), (a 2, aI (kG κ) 800 f2), (a 3, aI (kG κ) 4800 f3), (a 5, aI (kG κ) 1600 f5), (a 6, aZ (kG κ) 2 f6), (a 7, aI (kG κ) 60 f7), (a 17, aI (kG κ) 12 f17), (a 21, aI (kG κ) 12 f21), (a 22, aI (kG κ) 12 f22), (a 23, aI (kG κ) 12 f23), (a 24, aI (kG κ) 12 f24), (a 25, aI (kG κ) 12 f25), (a 26, aI (kG κ) 12 f26), (a 27, aI (kG κ) 12 f27), (a 28, aI (kG κ) 12 f28), (a 29, aZ (kG κ) 4 f29), (a 31, aI (kG κ) 1300 f31), (a 32, aI (kG κ) 1300 f32), (a 33, aI (kG κ) 1300 f33), (a 34, aI (kG κ) 1300 f34), (a 35, aI (kG κ) 13000 f35), (a 36, aI (kG κ) 606 f36), (a 37, aI (kG κ) 12 f37), (a 38, aI (kG κ) 12 f38), (a 41, aI (kG κ) 64 f41)] 5 [(0, .ref (a 0)), (1, .int (nI 9))] []
    refine w_iload_n (nx := 6) C 1 dX9_count_5 rfl rfl rfl ?_
    refine w_tableIn (nx := 88) C dX9_count_6 (by decide) (by decide) rfl rfl ?_
    refine w_aload_n (nx := 89) C 0 dX9_count_88 rfl rfl rfl ?_
    refine w_callV (nx := 92) (wr := [(a 2, aI (kG κ) 800 f2), (a 3, aI (kG κ) 4800 f3), (a 5, aI (kG κ) 1600 f5), (a 6, aZ (kG κ) 2 f6), (a 7, aI (kG κ) 60 f7), (a 17, aI (kG κ) 12 f17), (a 21, aI (kG κ) 12 f21), (a 22, aI (kG κ) 12 f22), (a 23, aI (kG κ) 12 f23), (a 24, aI (kG κ) 12 f24), (a 25, aI (kG κ) 12 f25), (a 26, aI (kG κ) 12 f26), (a 27, aI (kG κ) 12 f27), (a 28, aI (kG κ) 12 f28), (a 29, aZ (kG κ) 4 f29), (a 31, aI (kG κ) 1300 f31), (a 32, aI (kG κ) 1300 f32), (a 33, aI (kG κ) 1300 f33), (a 34, aI (kG κ) 1300 f34), (a 35, aI (kG κ) 13000 f35), (a 36, aI (kG κ) 606 f36), (a 41, aI (kG κ) 64 f41)]) (rest := []) C mi_X9_selves (c_X9_selves _ _ a (upd v 0 (nI 0)) f1 f37 f38 (sR (xS X)) (hS.2.2.2.1) (hO.1.2.2.2.1)) 0 dX9_count_89 rfl wl_X9_228 rfl rfl rfl (pm_sel [0, 1, 23, 24, 2, 3, 4, 5, 6, 7, 8, 9, 10, 11, 12, 13, 14, 15, 16, 17, 18, 19, 20, 21, 22, 25] 26 (by decide +kernel) rfl rfl) rfl rfl (Nat.le_of_ble_eq_true rfl) (Nat.le_of_ble_eq_true rfl) (Nat.le_of_ble_eq_true rfl) (Nat.zero_le _) (Nat.zero_le _) (fun v9 w9 R_14 => ?_)
    obtain ⟨g37_15, g38_16, rfl, rfl⟩ := R_14
    show WW κ 0 0 [(a 0, mO a (upd v 0 (nI 0))), (a 1, aI (kG κ) 800 f1), (a 37, aI (kG κ) 12 g37_15), (a 38, aI (kG κ) 12 g38_16), (a 2, aI (kG κ) 800 f2), (a 3, aI (kG κ) 4800 f3), (a 5, aI (kG κ) 1600 f5), (a 6, aZ (kG κ) 2 f6), (a 7, aI (kG κ) 60 f7), (a 17, aI (kG κ) 12 f17), (a 21, aI (kG κ) 12 f21), (a 22, aI (kG κ) 12 f22), (a 23, aI (kG κ) 12 f23), (a 24, aI (kG κ) 12 f24), (a 25, aI (kG κ) 12 f25), (a 26, aI (kG κ) 12 f26), (a 27, aI (kG κ) 12 f27), (a 28, aI (kG κ) 12 f28), (a 29, aZ (kG κ) 4 f29), (a 31, aI (kG κ) 1300 f31), (a 32, aI (kG κ) 1300 f32), (a 33, aI (kG κ) 1300 f33), (a 34, aI (kG κ) 1300 f34), (a 35, aI (kG κ) 13000 f35), (a 36, aI (kG κ) 606 f36), (a 41, aI (kG κ) 64 f41)] 92 [(0, .ref (a 0)), (1, .int (nI 9))] [.int (nI (slfN (sR (xS X)) (sR (xS X)).1))]
    refine ww_sel (l := [(a 0, mO a (upd v 0 (nI 0))), (a 1, aI (kG κ) 800 f1), (a 2, aI (kG κ) 800 f2), (a 3, aI (kG κ) 4800 f3), (a 5, aI (kG κ) 1600 f5), (a 6, aZ (kG κ) 2 f6), (a 7, aI (kG κ) 60 f7), (a 17, aI (kG κ) 12 f17), (a 21, aI (kG κ) 12 f21), (a 22, aI (kG κ) 12 f22), (a 23, aI (kG κ) 12 f23), (a 24, aI (kG κ) 12 f24), (a 25, aI (kG κ) 12 f25), (a 26, aI (kG κ) 12 f26), (a 27, aI (kG κ) 12 f27), (a 28, aI (kG κ) 12 f28), (a 29, aZ (kG κ) 4 f29), (a 31, aI (kG κ) 1300 f31), (a 32, aI (kG κ) 1300 f32), (a 33, aI (kG κ) 1300 f33), (a 34, aI (kG κ) 1300 f34), (a 35, aI (kG κ) 13000 f35), (a 36, aI (kG κ) 606 f36), (a 37, aI (kG κ) 12 g37_15), (a 38, aI (kG κ) 12 g38_16), (a 41, aI (kG κ) 64 f41)]) (pm_sel [0, 1, 4, 5, 6, 7, 8, 9, 10, 11, 12, 13, 14, 15, 16, 17, 18, 19, 20, 21, 22, 23, 24, 2, 3, 25] 26 (by decide +kernel) rfl rfl) ?_
    have ho9 : o_count X (nI 9) = ((nI (slfN (sR (xS X)) (sR (xS X)).1)), X) := by unfold o_count; rw [if_pos ⟨9, by decide, rfl⟩, tn_nI (by decide)]; rfl
    refine w_iret (ty := .int) C E dX9_count_92 rfl rfl (Nat.le_refl _) (Nat.le_refl _) ?_
    rw [ho9]
    exact ⟨_, rfl, rfl, _, _, _, _, _, _, _, _, _, _, _, _, _, _, _, _, _, _, _, _, _, _, _, _, _, _, _, rfl, rfl, hO, hS, hU, hUn, hSl, hPd, h18⟩
  · show WW κ 0 0 [(a 0, mO a (upd v 0 (nI 0))), (a 1, aI (kG κ) 800 f1), (a 2, aI (kG κ) 800 f2), (a 3, aI (kG κ) 4800 f3), (a 5, aI (kG κ) 1600 f5), (a 6, aZ (kG κ) 2 f6), (a 7, aI (kG κ) 60 f7), (a 17, aI (kG κ) 12 f17), (a 21, aI (kG κ) 12 f21), (a 22, aI (kG κ) 12 f22), (a 23, aI (kG κ) 12 f23), (a 24, aI (kG κ) 12 f24), (a 25, aI (kG κ) 12 f25), (a 26, aI (kG κ) 12 f26), (a 27, aI (kG κ) 12 f27), (a 28, aI (kG κ) 12 f28), (a 29, aZ (kG κ) 4 f29), (a 31, aI (kG κ) 1300 f31), (a 32, aI (kG κ) 1300 f32), (a 33, aI (kG κ) 1300 f33), (a 34, aI (kG κ) 1300 f34), (a 35, aI (kG κ) 13000 f35), (a 36, aI (kG κ) 606 f36), (a 37, aI (kG κ) 12 f37), (a 38, aI (kG κ) 12 f38), (a 41, aI (kG κ) 64 f41)] 5 [(0, .ref (a 0)), (1, .int (nI 10))] []
    refine w_iload_n (nx := 6) C 1 dX9_count_5 rfl rfl rfl ?_
    refine w_tableIn (nx := 93) C dX9_count_6 (by decide) (by decide) rfl rfl ?_
    refine w_aload_n (nx := 94) C 0 dX9_count_93 rfl rfl rfl ?_
    refine w_getM (nx := 97) C (.int (v 8)) 0 8 dX9_count_94 rfl wl_X9_231 rfl (by decide) rfl (mg_8 _ _) ?_
    refine w_top (nI ((xP X).1)) hPd.1 ?_
    have ho9 : o_count X (nI 10) = ((nI ((xP X).1)), X) := by unfold o_count; rw [if_pos ⟨10, by decide, rfl⟩, tn_nI (by decide)]; rfl
    refine w_iret (ty := .int) C E dX9_count_97 rfl rfl (Nat.le_refl _) (Nat.le_refl _) ?_
    rw [ho9]
    exact ⟨_, rfl, rfl, _, _, _, _, _, _, _, _, _, _, _, _, _, _, _, _, _, _, _, _, _, _, _, _, _, _, _, rfl, rfl, hO, hS, hU, hUn, hSl, hPd, h18⟩
  · show WW κ 0 0 [(a 0, mO a (upd v 0 (nI 0))), (a 1, aI (kG κ) 800 f1), (a 2, aI (kG κ) 800 f2), (a 3, aI (kG κ) 4800 f3), (a 5, aI (kG κ) 1600 f5), (a 6, aZ (kG κ) 2 f6), (a 7, aI (kG κ) 60 f7), (a 17, aI (kG κ) 12 f17), (a 21, aI (kG κ) 12 f21), (a 22, aI (kG κ) 12 f22), (a 23, aI (kG κ) 12 f23), (a 24, aI (kG κ) 12 f24), (a 25, aI (kG κ) 12 f25), (a 26, aI (kG κ) 12 f26), (a 27, aI (kG κ) 12 f27), (a 28, aI (kG κ) 12 f28), (a 29, aZ (kG κ) 4 f29), (a 31, aI (kG κ) 1300 f31), (a 32, aI (kG κ) 1300 f32), (a 33, aI (kG κ) 1300 f33), (a 34, aI (kG κ) 1300 f34), (a 35, aI (kG κ) 13000 f35), (a 36, aI (kG κ) 606 f36), (a 37, aI (kG κ) 12 f37), (a 38, aI (kG κ) 12 f38), (a 41, aI (kG κ) 64 f41)] 5 [(0, .ref (a 0)), (1, .int (nI 11))] []
    refine w_iload_n (nx := 6) C 1 dX9_count_5 rfl rfl rfl ?_
    refine w_tableIn (nx := 98) C dX9_count_6 (by decide) (by decide) rfl rfl ?_
    refine w_aload_n (nx := 99) C 0 dX9_count_98 rfl rfl rfl ?_
    refine w_getM (nx := 102) C (.int (v 4)) 0 4 dX9_count_99 rfl wl_X9_97 rfl (by decide) rfl (mg_4 _ _) ?_
    refine w_top (nI ((xH X).1)) hU ?_
    have ho9 : o_count X (nI 11) = ((nI ((xH X).1)), X) := by unfold o_count; rw [if_pos ⟨11, by decide, rfl⟩, tn_nI (by decide)]; rfl
    refine w_iret (ty := .int) C E dX9_count_102 rfl rfl (Nat.le_refl _) (Nat.le_refl _) ?_
    rw [ho9]
    exact ⟨_, rfl, rfl, _, _, _, _, _, _, _, _, _, _, _, _, _, _, _, _, _, _, _, _, _, _, _, _, _, _, _, rfl, rfl, hO, hS, hU, hUn, hSl, hPd, h18⟩
  · skip
    refine w_iload_n (nx := 6) C 1 dX9_count_5 rfl rfl rfl ?_
    refine w_tableOut (nx := 103) C dX9_count_6 (sw_out411 hno) rfl ?_
    refine w_iload_n (nx := 104) C 1 dX9_count_103 rfl rfl rfl ?_
    refine w_callS (nx := 107) (wr := [(a 0, mO a (upd v 0 (nI 0))), (a 1, aI (kG κ) 800 f1), (a 2, aI (kG κ) 800 f2), (a 3, aI (kG κ) 4800 f3), (a 5, aI (kG κ) 1600 f5), (a 6, aZ (kG κ) 2 f6), (a 7, aI (kG κ) 60 f7), (a 17, aI (kG κ) 12 f17), (a 21, aI (kG κ) 12 f21), (a 22, aI (kG κ) 12 f22), (a 23, aI (kG κ) 12 f23), (a 24, aI (kG κ) 12 f24), (a 25, aI (kG κ) 12 f25), (a 26, aI (kG κ) 12 f26), (a 27, aI (kG κ) 12 f27), (a 28, aI (kG κ) 12 f28), (a 29, aZ (kG κ) 4 f29), (a 31, aI (kG κ) 1300 f31), (a 32, aI (kG κ) 1300 f32), (a 33, aI (kG κ) 1300 f33), (a 34, aI (kG κ) 1300 f34), (a 35, aI (kG κ) 13000 f35), (a 36, aI (kG κ) 606 f36), (a 37, aI (kG κ) 12 f37), (a 38, aI (kG κ) 12 f38), (a 41, aI (kG κ) 64 f41)]) (rest := []) C ms_X9_isTable (c_X9_isTable _ _ qw) dX9_count_104 rfl wl_X9_201 rfl (pm_sel [0, 1, 2, 3, 4, 5, 6, 7, 8, 9, 10, 11, 12, 13, 14, 15, 16, 17, 18, 19, 20, 21, 22, 23, 24, 25] 26 (by decide +kernel) rfl rfl) rfl rfl (Nat.le_of_ble_eq_true rfl) (Nat.le_of_ble_eq_true rfl) (Nat.le_of_ble_eq_true rfl) (Nat.zero_le _) (Nat.zero_le _) (fun v9 w9 R_17 => ?_)
    obtain ⟨rfl, rfl⟩ := R_17
    show WW κ 0 0 [(a 0, mO a (upd v 0 (nI 0))), (a 1, aI (kG κ) 800 f1), (a 2, aI (kG κ) 800 f2), (a 3, aI (kG κ) 4800 f3), (a 5, aI (kG κ) 1600 f5), (a 6, aZ (kG κ) 2 f6), (a 7, aI (kG κ) 60 f7), (a 17, aI (kG κ) 12 f17), (a 21, aI (kG κ) 12 f21), (a 22, aI (kG κ) 12 f22), (a 23, aI (kG κ) 12 f23), (a 24, aI (kG κ) 12 f24), (a 25, aI (kG κ) 12 f25), (a 26, aI (kG κ) 12 f26), (a 27, aI (kG κ) 12 f27), (a 28, aI (kG κ) 12 f28), (a 29, aZ (kG κ) 4 f29), (a 31, aI (kG κ) 1300 f31), (a 32, aI (kG κ) 1300 f32), (a 33, aI (kG κ) 1300 f33), (a 34, aI (kG κ) 1300 f34), (a 35, aI (kG κ) 13000 f35), (a 36, aI (kG κ) 606 f36), (a 37, aI (kG κ) 12 f37), (a 38, aI (kG κ) 12 f38), (a 41, aI (kG κ) 64 f41)] 107 [(0, .ref (a 0)), (1, .int qw)] [.int (bC (wi qw 4))]
    refine b_if_eq (tg := 118) (nx := 110) C dX9_count_107 rfl rfl (fun h_18 => ?_) (fun h_18 => ?_)
    · refine w_bipush (nx := 120) C (-2) dX9_count_118 rfl (by decide) ?_
      have ho9 : o_count X qw = ((-2), X) := by unfold o_count; rw [if_neg hno]
      refine w_iret (ty := .int) C E dX9_count_120 rfl rfl (Nat.le_refl _) (Nat.le_refl _) ?_
      rw [ho9]
      exact ⟨_, rfl, rfl, _, _, _, _, _, _, _, _, _, _, _, _, _, _, _, _, _, _, _, _, _, _, _, _, _, _, _, rfl, rfl, hO, hS, hU, hUn, hSl, hPd, h18⟩
    · exact absurd (by obtain ⟨z1, z2, z3⟩ := h_18; exact ⟨z1, by omega, z3⟩) hno
