/-! PURE: small naturals as ints; the tables, the triggers, the journal as values -/
theorem nI_dec {a k : Nat} (h : k ≤ a) : nI a + Int32.ofInt (-(k : Int)) = nI (a - k) := by
  have e : Int32.ofInt (-(k : Int)) = -(nI k) := by
    unfold nI
    rw [Int32.ofInt_neg]
    congr 1
  rw [e, ← Int32.sub_eq_add_neg]
  exact pk_sub h
theorem nI_nz {a : Nat} (h0 : 0 < a) (h : a < 2 ^ 31) : ¬ nI a = 0 := nI_ne0 h0 h
theorem nI_nneg {a : Nat} {y : Int32} (h : a < 2 ^ 31) (hy : y < 0) : ¬ nI a = y := fun e => by
  rw [← e] at hy
  exact nI_pos h hy
theorem nI_inj {a b : Nat} (ha : a < 2 ^ 31) (hb : b < 2 ^ 31) (h : nI a = nI b) : a = b := (nI_eq ha hb).mp h
theorem upd_e {f : Nat → Int32} {k j : Nat} {x : Int32} (h : j = k) : upd f k x j = x := by unfold upd; rw [if_pos h]
theorem upd_n {f : Nat → Int32} {k j : Nat} {x : Int32} (h : ¬ j = k) : upd f k x j = f j := by unfold upd; rw [if_neg h]
/-- an int within a limit, as a natural -/
theorem in_iff {x : Int32} {L : Nat} (hL : L < 2 ^ 31) : (0 ≤ x.toInt ∧ x.toInt < L) ↔ ∃ j, j < L ∧ x = nI j := by
  constructor
  · intro ⟨h0, h1⟩
    refine ⟨x.toInt.toNat, by omega, ?_⟩
    apply Int32.toInt_inj.mp
    rw [nI_toInt (by omega)]
    omega
  · rintro ⟨j, hj, rfl⟩
    rw [nI_toInt (by omega)]
    omega
theorem in_nI {a L : Nat} (ha : a < 2 ^ 31) (hL : L < 2 ^ 31) : (∃ j, j < L ∧ nI a = nI j) ↔ a < L := by
  constructor
  · rintro ⟨j, hj, e⟩
    rw [nI_inj ha (by omega) e]
    exact hj
  · exact fun h => ⟨a, h, rfl⟩
abbrev TB : Type := (Nat → Nat) × (Nat → Nat → Nat) × (Nat → Nat → Nat)
abbrev zT (τ : TB) (t : Nat) : Nat := τ.1 t
abbrev kT (τ : TB) (t j : Nat) : Nat := τ.2.1 t j
abbrev nT (τ : TB) (t j : Nat) : Nat := τ.2.2 t j
def wfT (τ : TB) : Prop := ∀ t, t < 4 → zT τ t ≤ 12 ∧ ∀ j, j < zT τ t → kT τ t j < 100 ∧ nT τ t j < 1000
/-- the first place with a key, the length if there is none -/
def fpl (K : Nat → Nat) (key : Nat) : Nat → Nat
  | 0 => 0
  | n + 1 => if fpl K key n < n then fpl K key n else if K n = key then n else n + 1
theorem fpl_le (K : Nat → Nat) (key : Nat) : ∀ n, fpl K key n ≤ n
  | 0 => Nat.le_refl 0
  | n + 1 => by
    unfold fpl
    have := fpl_le K key n
    split
    · omega
    · split <;> omega
theorem fpl_no {K : Nat → Nat} {key : Nat} : ∀ n, (∀ i, i < n → ¬ K i = key) → fpl K key n = n
  | 0, _ => rfl
  | n + 1, h => by
    have h1 := fpl_no n (fun i hi => h i (by omega))
    unfold fpl
    rw [if_neg (by omega), if_neg (h n (by omega))]
theorem fpl_at {K : Nat → Nat} {key j : Nat} : ∀ n, j < n → K j = key → (∀ i, i < j → ¬ K i = key) → fpl K key n = j
  | 0, h, _, _ => absurd h (Nat.not_lt_zero _)
  | n + 1, h, hj, hn => by
    by_cases e : j = n
    · subst e
      have h1 := fpl_no j hn
      unfold fpl
      rw [if_neg (by omega), if_pos hj]
    · have h1 := fpl_at n (by omega) hj hn
      unfold fpl
      rw [if_pos (by omega), h1]
theorem fpl_yes {K : Nat → Nat} {key : Nat} : ∀ n, fpl K key n < n → K (fpl K key n) = key
  | 0, h => absurd h (Nat.not_lt_zero _)
  | n + 1, h => by
    by_cases h1 : fpl K key n < n
    · have e : fpl K key (n + 1) = fpl K key n := by
        show (if fpl K key n < n then _ else _) = _
        rw [if_pos h1]
      rw [e]
      exact fpl_yes n h1
    · by_cases h2 : K n = key
      · have e : fpl K key (n + 1) = n := by
          show (if fpl K key n < n then _ else _) = _
          rw [if_neg h1, if_pos h2]
        rw [e]
        exact h2
      · have e : fpl K key (n + 1) = n + 1 := by
          show (if fpl K key n < n then _ else _) = _
          rw [if_neg h1, if_neg h2]
        omega
/-- the place where a key is put: behind all rows but the last ones that have greater keys -/
def ipos (K : Nat → Nat) (key : Nat) : Nat → Nat
  | 0 => 0
  | n + 1 => if key < K n then ipos K key n else n + 1
theorem ipos_le (K : Nat → Nat) (key : Nat) : ∀ n, ipos K key n ≤ n
  | 0 => Nat.le_refl 0
  | n + 1 => by
    unfold ipos
    have := ipos_le K key n
    split <;> omega
theorem ipos_eq {K : Nat → Nat} {key p : Nat} : ∀ n, p ≤ n → (∀ q, p ≤ q → q < n → key < K q) → (p = 0 ∨ ¬ key < K (p - 1)) → ipos K key n = p
  | 0, h, _, _ => by
    have : p = 0 := by omega
    subst this
    rfl
  | n + 1, h, h1, h2 => by
    unfold ipos
    by_cases e : p = n + 1
    · subst e
      rcases h2 with h2 | h2
      · omega
      · rw [Nat.add_sub_cancel] at h2
        rw [if_neg h2]
    · rw [if_pos (h1 n (by omega) (by omega))]
      exact ipos_eq n (by omega) (fun q a b => h1 q a (by omega)) h2
/-- a row laid into a table, a row's number, a row dropped -/
def layT (τ : TB) (t key num : Nat) : TB :=
  (fun u => if u = t then zT τ t + 1 else zT τ u,
   fun u j => if u = t then (if j < ipos (kT τ t) key (zT τ t) then kT τ t j else if j = ipos (kT τ t) key (zT τ t) then key else kT τ t (j - 1)) else kT τ u j,
   fun u j => if u = t then (if j < ipos (kT τ t) key (zT τ t) then nT τ t j else if j = ipos (kT τ t) key (zT τ t) then num else nT τ t (j - 1)) else nT τ u j)
def setT (τ : TB) (t p num : Nat) : TB := (τ.1, τ.2.1, fun u j => if u = t ∧ j = p then num else nT τ u j)
def drpT (τ : TB) (t p : Nat) : TB :=
  (fun u => if u = t then zT τ t - 1 else zT τ u,
   fun u j => if u = t then (if j < p then kT τ t j else kT τ t (j + 1)) else kT τ u j,
   fun u j => if u = t then (if j < p then nT τ t j else nT τ t (j + 1)) else nT τ u j)
/-- the place of a key in a table (its length if there is none) -/
abbrev plT (τ : TB) (t key : Nat) : Nat := fpl (kT τ t) key (zT τ t)
/-- the weight of a statement, none if it isn't possible: kind 0 LAY, 1 ADD, 2 DROP -/
def wgt (τ : TB) (kd t key num : Nat) : Option Nat :=
  if kd = 0 then (if plT τ t key = zT τ t ∧ zT τ t < 12 then some num else none)
  else if plT τ t key = zT τ t then none
  else if kd = 2 then some (nT τ t (plT τ t key))
  else if nT τ t (plT τ t key) + num < 1000 then some (nT τ t (plT τ t key) + num) else none
/-- a possible statement of this weight is done -/
def appT (τ : TB) (kd t key w : Nat) : TB :=
  if kd = 0 then layT τ t key w else if kd = 1 then setT τ t (plT τ t key) w else drpT τ t (plT τ t key)
theorem wgt_lt {τ : TB} {kd t key num w : Nat} (hw : wfT τ) (ht : t < 4) (hn : num < 1000) (h : wgt τ kd t key num = some w) : w < 1000 := by
  unfold wgt at h
  have hp : ¬ plT τ t key = zT τ t → nT τ t (plT τ t key) < 1000 := fun hne => ((hw t ht).2 _ (Nat.lt_of_le_of_ne (fpl_le _ _ _) hne)).2
  split at h
  · split at h
    · cases h; exact hn
    · cases h
  · split at h
    · cases h
    · rename_i hne
      split at h
      · cases h; exact hp hne
      · split at h
        · cases h; assumption
        · cases h
theorem wfT_lay {τ : TB} {t key num : Nat} (hw : wfT τ) (ht : t < 4) (hz : zT τ t < 12) (hk : key < 100) (hn : num < 1000) : wfT (layT τ t key num) := by
  intro u hu
  by_cases e : u = t
  · subst e
    have h0 := hw u hu
    have hp := ipos_le (kT τ u) key (zT τ u)
    refine ⟨?_, fun j hj => ?_⟩
    · show (if u = u then zT τ u + 1 else _) ≤ 12
      rw [if_pos rfl]; omega
    · have hj2 : j < zT τ u + 1 := by
        have : (if u = u then zT τ u + 1 else zT τ u) = zT τ u + 1 := if_pos rfl
        exact this ▸ hj
      simp only [layT, kT, nT, if_true]
      by_cases h1 : j < ipos (kT τ u) key (zT τ u)
      · rw [if_pos h1, if_pos h1]; exact h0.2 j (by omega)
      · rw [if_neg h1, if_neg h1]
        by_cases h2 : j = ipos (kT τ u) key (zT τ u)
        · rw [if_pos h2, if_pos h2]; exact ⟨hk, hn⟩
        · rw [if_neg h2, if_neg h2]; exact h0.2 (j - 1) (by omega)
  · have h0 := hw u hu
    simp only [layT, zT, kT, nT, if_neg e]
    exact h0
theorem wfT_set {τ : TB} {t p num : Nat} (hw : wfT τ) (hn : num < 1000) : wfT (setT τ t p num) := by
  intro u hu
  refine ⟨(hw u hu).1, fun j hj => ⟨((hw u hu).2 j hj).1, ?_⟩⟩
  show (if u = t ∧ j = p then num else nT τ u j) < 1000
  split
  · exact hn
  · exact ((hw u hu).2 j hj).2
theorem wfT_drp {τ : TB} {t p : Nat} (hw : wfT τ) : wfT (drpT τ t p) := by
  intro u hu
  by_cases e : u = t
  · subst e
    have h0 := hw u hu
    refine ⟨?_, fun j hj => ?_⟩
    · show (if u = u then zT τ u - 1 else _) ≤ 12
      rw [if_pos rfl]; omega
    · have hj2 : j < zT τ u - 1 := by
        have : (if u = u then zT τ u - 1 else zT τ u) = zT τ u - 1 := if_pos rfl
        exact this ▸ hj
      simp only [drpT, kT, nT, if_true]
      by_cases h1 : j < p
      · rw [if_pos h1, if_pos h1]; exact h0.2 j (by omega)
      · rw [if_neg h1, if_neg h1]; exact h0.2 (j + 1) (by omega)
  · have h0 := hw u hu
    simp only [drpT, zT, kT, nT, if_neg e]
    exact h0
theorem wfT_app {τ : TB} {kd t key num w : Nat} (hw : wfT τ) (ht : t < 4) (hk : key < 100) (hn : num < 1000) (h : wgt τ kd t key num = some w) : wfT (appT τ kd t key w) := by
  have hl := wgt_lt hw ht hn h
  unfold appT
  split
  · rename_i h0
    refine wfT_lay hw ht ?_ hk hl
    unfold wgt at h
    rw [if_pos h0] at h
    split at h
    · rename_i h1; exact h1.2
    · cases h
  · split
    · exact wfT_set hw hl
    · exact wfT_drp hw
/-- the tables in the class: sizes, keys, numbers -/
def rT (fs fk fn : Nat → Int32) (τ : TB) : Prop := ∀ t, t < 4 → fs t = nI (zT τ t) ∧ ∀ j, j < zT τ t → fk (t * 12 + j) = nI (kT τ t j) ∧ fn (t * 12 + j) = nI (nT τ t j)
theorem rT_lay {fs fk fn fk2 fn2 : Nat → Int32} {τ : TB} {t key num p : Nat} (hT : rT fs fk fn τ) (hw : wfT τ) (ht : t < 4) (hz : zT τ t < 12) (hp : p = ipos (kT τ t) key (zT τ t))
    (hk1 : ∀ i, (i < t * 12 + p ∨ t * 12 + 12 ≤ i) → fk2 i = fk i) (hk2 : ∀ j, p < j → j ≤ zT τ t → fk2 (t * 12 + j) = fk (t * 12 + (j - 1))) (hn1 : ∀ i, (i < t * 12 + p ∨ t * 12 + 12 ≤ i) → fn2 i = fn i) (hn2 : ∀ j, p < j → j ≤ zT τ t → fn2 (t * 12 + j) = fn (t * 12 + (j - 1))) :
    rT (upd fs t (nI (zT τ t + 1))) (upd fk2 (t * 12 + p) (nI key)) (upd fn2 (t * 12 + p) (nI num)) (layT τ t key num) := by
  have hp2 := ipos_le (kT τ t) key (zT τ t)
  rw [← hp] at hp2
  intro u hu
  by_cases e : u = t
  · subst e
    have h0 := hT u hu
    refine ⟨?_, fun j hj => ?_⟩
    · rw [upd_e rfl]
      show _ = nI (if u = u then zT τ u + 1 else _)
      rw [if_pos rfl]
    · have hj2 : j < zT τ u + 1 := by
        have : (if u = u then zT τ u + 1 else zT τ u) = zT τ u + 1 := if_pos rfl
        exact this ▸ hj
      simp only [layT, kT, nT, if_true, ← hp]
      by_cases h1 : j < p
      · rw [if_pos h1, if_pos h1, upd_n (by omega), upd_n (by omega), hk1 _ (by omega), hn1 _ (by omega)]
        exact h0.2 j (by omega)
      · rw [if_neg h1, if_neg h1]
        by_cases h2 : j = p
        · rw [if_pos h2, if_pos h2, upd_e (by omega), upd_e (by omega)]
          exact ⟨rfl, rfl⟩
        · rw [if_neg h2, if_neg h2, upd_n (by omega), upd_n (by omega), hk2 j (by omega) (by omega), hn2 j (by omega) (by omega)]
          exact h0.2 (j - 1) (by omega)
  · have h0 := hT u hu
    have h1 := hw u hu
    simp only [layT, zT, kT, nT, if_neg e]
    rw [upd_n e]
    refine ⟨h0.1, fun j hj => ?_⟩
    have hj2 : j < zT τ u := hj
    rw [upd_n (by omega), upd_n (by omega), hk1 _ (by omega), hn1 _ (by omega)]
    exact h0.2 j hj
theorem rT_set {fs fk fn : Nat → Int32} {τ : TB} {t p num : Nat} (hT : rT fs fk fn τ) (hw : wfT τ) (ht : t < 4) (hp : p < 12) : rT fs fk (upd fn (t * 12 + p) (nI num)) (setT τ t p num) := by
  intro u hu
  have h0 := hT u hu
  have h1 := hw u hu
  refine ⟨h0.1, fun j hj => ⟨(h0.2 j hj).1, ?_⟩⟩
  have hj2 : j < zT τ u := hj
  show _ = nI (if u = t ∧ j = p then num else nT τ u j)
  by_cases e : u = t ∧ j = p
  · rw [if_pos e, upd_e (by omega)]
  · rw [if_neg e, upd_n (by omega)]
    exact (h0.2 j hj).2
theorem rT_drp {fs fk fn fk2 fn2 : Nat → Int32} {τ : TB} {t p : Nat} (hT : rT fs fk fn τ) (hw : wfT τ) (ht : t < 4)
    (hk1 : ∀ i, (i < t * 12 + p ∨ t * 12 + 12 ≤ i) → fk2 i = fk i) (hk2 : ∀ j, p ≤ j → j < zT τ t - 1 → fk2 (t * 12 + j) = fk (t * 12 + (j + 1))) (hn1 : ∀ i, (i < t * 12 + p ∨ t * 12 + 12 ≤ i) → fn2 i = fn i) (hn2 : ∀ j, p ≤ j → j < zT τ t - 1 → fn2 (t * 12 + j) = fn (t * 12 + (j + 1))) :
    rT (upd fs t (nI (zT τ t - 1))) fk2 fn2 (drpT τ t p) := by
  intro u hu
  by_cases e : u = t
  · subst e
    have h0 := hT u hu
    have hz := (hw u hu).1
    refine ⟨?_, fun j hj => ?_⟩
    · rw [upd_e rfl]
      show _ = nI (if u = u then zT τ u - 1 else _)
      rw [if_pos rfl]
    · have hj2 : j < zT τ u - 1 := by
        have : (if u = u then zT τ u - 1 else zT τ u) = zT τ u - 1 := if_pos rfl
        exact this ▸ hj
      simp only [drpT, kT, nT, if_true]
      by_cases h1 : j < p
      · rw [if_pos h1, if_pos h1, hk1 _ (by omega), hn1 _ (by omega)]
        exact h0.2 j (by omega)
      · rw [if_neg h1, if_neg h1, hk2 j (by omega) hj2, hn2 j (by omega) hj2]
        exact h0.2 (j + 1) (by omega)
  · have h0 := hT u hu
    have h1 := hw u hu
    have h2 := hw t ht
    simp only [drpT, zT, kT, nT, if_neg e]
    rw [upd_n e]
    refine ⟨h0.1, fun j hj => ?_⟩
    have hj2 : j < zT τ u := hj
    by_cases hlt : u < t
    · rw [hk1 _ (by omega), hn1 _ (by omega)]
      exact h0.2 j hj
    · rw [hk1 _ (by omega), hn1 _ (by omega)]
      exact h0.2 j hj
/-- a table's rows in the class, one cell -/
theorem rT_z {fs fk fn : Nat → Int32} {τ : TB} {t : Nat} (hT : rT fs fk fn τ) (ht : t < 4) : fs t = nI (zT τ t) := (hT t ht).1
theorem rT_k {fs fk fn : Nat → Int32} {τ : TB} {t j : Nat} (hT : rT fs fk fn τ) (ht : t < 4) (hj : j < zT τ t) : fk (t * 12 + j) = nI (kT τ t j) := ((hT t ht).2 j hj).1
theorem rT_n {fs fk fn : Nat → Int32} {τ : TB} {t j : Nat} (hT : rT fs fk fn τ) (ht : t < 4) (hj : j < zT τ t) : fn (t * 12 + j) = nI (nT τ t j) := ((hT t ht).2 j hj).2
theorem rT_cpy {fs fk fn gs gk gn : Nat → Int32} {τ : TB} (hT : rT gs gk gn τ) (hw : wfT τ) : rT (va_cpy gs fs 0 0 4) (va_cpy gk fk 0 0 48) (va_cpy gn fn 0 0 48) τ := by
  intro t ht
  have h0 := hT t ht
  have h1 := hw t ht
  refine ⟨?_, fun j hj => ?_⟩
  · rw [pk_cpy_in (by omega) (by omega), show 0 + (t - 0) = t by omega]
    exact h0.1
  · have h2 := h0.2 j hj
    rw [pk_cpy_in (by omega) (by omega), pk_cpy_in (by omega) (by omega), show 0 + (t * 12 + j - 0) = t * 12 + j by omega]
    exact h2
/-- how many rows there are, and the sum of their numbers -/
def allT (τ : TB) : Nat := 0 + zT τ 0 + zT τ 1 + zT τ 2 + zT τ 3
def sN (N : Nat → Nat) : Nat → Nat
  | 0 => 0
  | n + 1 => sN N n + N n
def sumT (τ : TB) : Nat → Nat
  | 0 => 0
  | t + 1 => sumT τ t + sN (nT τ t) (zT τ t)
def noT : TB := (fun _ => 0, fun _ _ => 0, fun _ _ => 0)
theorem wfT_no : wfT noT := fun t _ => ⟨Nat.zero_le _, fun j hj => absurd hj (Nat.not_lt_zero _)⟩
theorem rT_no : rT (fun _ => 0) (fun _ => 0) (fun _ => 0) noT := fun t _ => ⟨rfl, fun j hj => absurd hj (Nat.not_lt_zero _)⟩
theorem df_X0 : ∀ j, j < 11 → defaultValue (tyX0 j) = vp_V [.null, .null, .null, .null, .int 0, .null, .null, .int 0, .int 0, .int 0, .int 0] j := by
  intro j hj
  rcases (show j = 0 ∨ j = 1 ∨ j = 2 ∨ j = 3 ∨ j = 4 ∨ j = 5 ∨ j = 6 ∨ j = 7 ∨ j = 8 ∨ j = 9 ∨ j = 10 by omega) with rfl | rfl | rfl | rfl | rfl | rfl | rfl | rfl | rfl | rfl | rfl <;> rfl
theorem df_X1 : ∀ j, j < 5 → defaultValue (tyX1 j) = vp_V [.int 0, .int 0, .int 0, .int 0, .null] j := by
  intro j hj
  rcases (show j = 0 ∨ j = 1 ∨ j = 2 ∨ j = 3 ∨ j = 4 by omega) with rfl | rfl | rfl | rfl | rfl <;> rfl
theorem df_X2 : ∀ j, j < 3 → defaultValue (tyX2 j) = vp_V [.null, .int 0, .int 0] j := by
  intro j hj
  rcases (show j = 0 ∨ j = 1 ∨ j = 2 by omega) with rfl | rfl | rfl <;> rfl
theorem df_X3 : ∀ j, j < 4 → defaultValue (tyX3 j) = vp_V [.null, .null, .int 0, .int 0] j := by
  intro j hj
  rcases (show j = 0 ∨ j = 1 ∨ j = 2 ∨ j = 3 by omega) with rfl | rfl | rfl | rfl <;> rfl
theorem df_X4 : ∀ j, j < 4 → defaultValue (tyX4 j) = vp_V [.int 0, .int 0, .null, .int 0] j := by
  intro j hj
  rcases (show j = 0 ∨ j = 1 ∨ j = 2 ∨ j = 3 by omega) with rfl | rfl | rfl | rfl <;> rfl
theorem df_X5 : ∀ j, j < 5 → defaultValue (tyX5 j) = vp_V [.null, .null, .null, .int 0, .int 0] j := by
  intro j hj
  rcases (show j = 0 ∨ j = 1 ∨ j = 2 ∨ j = 3 ∨ j = 4 by omega) with rfl | rfl | rfl | rfl | rfl <;> rfl
theorem df_X6 : ∀ j, j < 3 → defaultValue (tyX6 j) = vp_V [.null, .null, .null] j := by
  intro j hj
  rcases (show j = 0 ∨ j = 1 ∨ j = 2 by omega) with rfl | rfl | rfl <;> rfl
theorem df_X7 : ∀ j, j < 1 → defaultValue (tyX7 j) = vp_V [.null] j := by
  intro j hj
  rcases (show j = 0 by omega) with rfl <;> rfl
theorem df_X8 : ∀ j, j < 5 → defaultValue (tyX8 j) = vp_V [.null, .null, .null, .null, .null] j := by
  intro j hj
  rcases (show j = 0 ∨ j = 1 ∨ j = 2 ∨ j = 3 ∨ j = 4 by omega) with rfl | rfl | rfl | rfl | rfl <;> rfl
