/-! PURE: the whole object: its state, its history, its slots, its pad; what each call answers and leaves -/
/-- DEPTH, LENIENT, tables, triggers, journal -/
abbrev SG : Type := Nat × Nat × TB × TR × JR
abbrev sD (σ : SG) : Nat := σ.1
abbrev sL (σ : SG) : Nat := σ.2.1
abbrev sT (σ : SG) : TB := σ.2.2.1
abbrev sR (σ : SG) : TR := σ.2.2.2.1
abbrev sJ (σ : SG) : JR := σ.2.2.2.2
def wfS (σ : SG) : Prop := sD σ ≤ 8 ∧ sL σ ≤ 1 ∧ wfT (sT σ) ∧ wfR (sR σ) ∧ (sJ σ).1 ≤ 100
def noS : SG := (4, 0, noT, (0, fun _ _ => 0), (0, fun _ _ => 0))
theorem wfS_no : wfS noS := ⟨by decide, by decide, wfT_no, ⟨Nat.zero_le _, fun i hi => absurd hi (Nat.not_lt_zero _)⟩, Nat.zero_le _⟩
/-- the history: how many states, and which (the oldest is 0); the slots; the pad -/
abbrev HS : Type := Nat × (Nat → SG)
abbrev SL : Type := Nat → Option SG
abbrev PD : Type := Nat × (Nat → Nat)
abbrev SX : Type := SG × HS × SL × PD
abbrev xS (X : SX) : SG := X.1
abbrev xH (X : SX) : HS := X.2.1
abbrev xL (X : SX) : SL := X.2.2.1
abbrev xP (X : SX) : PD := X.2.2.2
def wfH (h : HS) : Prop := h.1 ≤ 6 ∧ ∀ i, i < h.1 → wfS (h.2 i)
def wfL (s : SL) : Prop := ∀ i, i < 2 → ∀ σ, s i = some σ → wfS σ
def wfP (P : PD) : Prop := P.1 ≤ 60 ∧ ∀ i, i < P.1 → 33 ≤ P.2 i ∧ P.2 i ≤ 126
def wfO (X : SX) : Prop := wfS (xS X) ∧ wfH (xH X) ∧ wfL (xL X) ∧ wfP (xP X)
def noX : SX := (noS, (0, fun _ => noS), fun _ => none, (0, fun _ => 0))
theorem wfO_no : wfO noX := by
  refine ⟨wfS_no, ⟨Nat.zero_le _, fun i hi => absurd hi (Nat.not_lt_zero _)⟩, ?_, ⟨Nat.zero_le _, fun i hi => absurd hi (Nat.not_lt_zero _)⟩⟩
  intro i _ σ h
  exact absurd (h : none = some σ) (by intro e; cases e)
/-- a state kept -/
def kpH (h : HS) (σ : SG) : HS := if h.1 = 6 then (6, fun i => if i = 5 then σ else h.2 (i + 1)) else (h.1 + 1, fun i => if i = h.1 then σ else h.2 i)
theorem wfH_kp {h : HS} {σ : SG} (hh : wfH h) (hs : wfS σ) : wfH (kpH h σ) := by
  unfold kpH
  split
  · rename_i e
    refine ⟨Nat.le_refl _, fun i hi => ?_⟩
    have hi2 : i < 6 := hi
    show wfS (if i = 5 then σ else h.2 (i + 1))
    split
    · exact hs
    · exact hh.2 _ (by omega)
  · rename_i e
    have := hh.1
    refine ⟨by show h.1 + 1 ≤ 6; omega, fun i hi => ?_⟩
    have hi2 : i < h.1 + 1 := hi
    show wfS (if i = h.1 then σ else h.2 i)
    split
    · exact hs
    · exact hh.2 _ (by omega)
/-- an int within a limit, as a natural -/
abbrev wi (x : Int32) (L : Nat) : Prop := ∃ j, j < L ∧ x = nI j
def tn (x : Int32) : Nat := x.toInt.toNat
theorem tn_nI {j : Nat} (h : j < 2 ^ 31) : tn (nI j) = j := by
  unfold tn
  rw [nI_toInt (by omega)]
  omega
/-- the course of a statement on a state -/
noncomputable def rnS (σ : SG) (D O kd t ky nm : Nat) : RS := runS (D, sL σ, O, sR σ) kd t ky nm (sT σ)
def tkS (σ : SG) (r : RS) : SG := (sD σ, sL σ, rsT r, sR σ, rsJ r)
noncomputable def oE (kd t ky nm : Int32) : Int32 := by
  classical
  exact
    if ¬ wi t 4 then -1 else if ¬ (wi kd 3 ∧ wi ky 100 ∧ wi nm 1000) then -2 else 0
noncomputable def o_set (X : SX) (s v : Int32) : Int32 × SX := by
  classical
  exact
    if s = 0 ∧ wi v 9 then (nI (sD (xS X)), ((tn v, (xS X).2), kpH (xH X) (xS X), X.2.2))
    else if s = 1 ∧ wi v 2 then (nI (sL (xS X)), ((sD (xS X), tn v, (xS X).2.2), kpH (xH X) (xS X), X.2.2))
    else (-2, X)
def wR (σ : SG) (ρ : TR) : SG := (sD σ, sL σ, sT σ, ρ, sJ σ)
noncomputable def o_trigger (X : SX) (t k s b : Int32) : Int32 × SX := by
  classical
  exact
    if ¬ wi t 4 then (-1, X) else if ¬ (wi k 3 ∧ wi s 3 ∧ wi b 1000) then (-2, X) else if 12 ≤ (sR (xS X)).1 then (-4, X)
    else (nI (sR (xS X)).1, (wR (xS X) (addR (sR (xS X)) (tn t) (tn k) (tn s) (tn b)), kpH (xH X) (xS X), X.2.2))
noncomputable def o_deed (X : SX) (q d t s m : Int32) : Int32 × SX := by
  classical
  exact
    if ¬ (wi q (sR (xS X)).1 ∧ wi t 4) then (-1, X) else if ¬ (wi d 4 ∧ wi s 100 ∧ wi m 1000) then (-2, X)
    else (nI ((sR (xS X)).2 (tn q) 4), (wR (xS X) (deedR (sR (xS X)) (tn q) (tn d) (tn t) (tn s) (tn m)), kpH (xH X) (xS X), X.2.2))
noncomputable def o_dropTrigger (X : SX) (q : Int32) : Int32 × SX := by
  classical
  exact
    if ¬ wi q (sR (xS X)).1 then (-1, X) else (nI ((sR (xS X)).1 - 1), (wR (xS X) (drpR (sR (xS X)) (tn q)), kpH (xH X) (xS X), X.2.2))
noncomputable def o_state (X : SX) (kd t ky nm : Int32) : Int32 × SX := by
  classical
  exact
    if ¬ oE kd t ky nm = 0 then (oE kd t ky nm, X)
    else if ¬ rsn (rnS (xS X) (sD (xS X)) 99 (tn kd) (tn t) (tn ky) (tn nm)) = 0 then (-5, X)
    else (nI (rsJ (rnS (xS X) (sD (xS X)) 99 (tn kd) (tn t) (tn ky) (tn nm))).1, (tkS (xS X) (rnS (xS X) (sD (xS X)) 99 (tn kd) (tn t) (tn ky) (tn nm)), kpH (xH X) (xS X), X.2.2))
def tval (r : RS) (w : Nat) : Int32 :=
  if w = 0 then nI (rsn r) else if w = 1 then (if rsn r = 0 then nI (rsJ r).1 else 0) else if w = 2 then nI (rsB r) else if w = 3 then nI (rsL r) else if w = 4 then nI (rsP r)
  else if w = 5 then ftb r else if w = 6 then fky r else if w = 7 then nI (rsF r).2.2.2.length else if w - 8 < (rsF r).2.2.2.length then nI ((rsF r).2.2.2.getD (w - 8) 0) else -6
noncomputable def o_tried (X : SX) (kd t ky nm w : Int32) : Int32 × SX := by
  classical
  exact
    if ¬ oE kd t ky nm = 0 then (oE kd t ky nm, X) else if ¬ wi w 21 then (-2, X)
    else (tval (rnS (xS X) (sD (xS X)) 99 (tn kd) (tn t) (tn ky) (tn nm)) (tn w), X)
noncomputable def o_row (X : SX) (t p w : Int32) : Int32 × SX := by
  classical
  exact
    if ¬ wi t 4 then (-1, X) else if ¬ wi p (zT (sT (xS X)) (tn t)) then (-1, X)
    else if w = 0 then (nI (kT (sT (xS X)) (tn t) (tn p)), X) else if w = 1 then (nI (nT (sT (xS X)) (tn t) (tn p)), X) else (-2, X)
noncomputable def o_value (X : SX) (t ky : Int32) : Int32 × SX := by
  classical
  exact
    if ¬ wi t 4 then (-1, X) else if ¬ wi ky 100 then (-2, X)
    else if plT (sT (xS X)) (tn t) (tn ky) = zT (sT (xS X)) (tn t) then (-6, X) else (nI (nT (sT (xS X)) (tn t) (plT (sT (xS X)) (tn t) (tn ky))), X)
noncomputable def o_ofTrigger (X : SX) (q w : Int32) : Int32 × SX := by
  classical
  exact
    if ¬ wi q (sR (xS X)).1 then (-1, X) else if wi w 8 then (nI ((sR (xS X)).2 (tn q) (tn w)), X)
    else if w = 8 then (nI (fol (sR (xS X)) (tn q)), X) else if w = 9 then ((if slfB (sR (xS X)) (tn q) = true then 1 else 0), X) else (-2, X)
noncomputable def o_journal (X : SX) (p w : Int32) : Int32 × SX := by
  classical
  exact
    if ¬ wi p (sJ (xS X)).1 then (-1, X) else if ¬ wi w 6 then (-2, X) else ((sJ (xS X)).2 (tn p) (tn w), X)
def cval (X : SX) (w : Nat) : Int32 :=
  if w < 4 then nI (zT (sT (xS X)) w) else if w = 4 then nI (sR (xS X)).1 else if w = 5 then nI (sJ (xS X)).1 else if w = 6 then nI (sumT (sT (xS X)) 4) else if w = 7 then nI (sD (xS X))
  else if w = 8 then nI (sL (xS X)) else if w = 9 then nI (slfN (sR (xS X)) (sR (xS X)).1) else if w = 10 then nI (xP X).1 else nI (xH X).1
noncomputable def o_count (X : SX) (w : Int32) : Int32 × SX := by
  classical
  exact
    if wi w 12 then (cval X (tn w), X) else (-2, X)
/-- the triggers without which a statement goes through; the least depth at which it does -/
def culN (ok : Nat → Prop) [∀ i, Decidable (ok i)] : Nat → Nat
  | 0 => 0
  | k + 1 => if ok k then culN ok k ||| 2 ^ k else culN ok k
def lstF (ok : Nat → Prop) [∀ i, Decidable (ok i)] : Nat → Nat → Int32
  | 0, _ => -6
  | m + 1, d => if ok d then nI d else lstF ok m (d + 1)
noncomputable def o_culprits (X : SX) (kd t ky nm : Int32) : Int32 × SX := by
  classical
  exact
    if ¬ oE kd t ky nm = 0 then (oE kd t ky nm, X)
    else if rsn (rnS (xS X) (sD (xS X)) 99 (tn kd) (tn t) (tn ky) (tn nm)) = 0 then (-6, X)
    else (nI (culN (fun i => rsn (rnS (xS X) (sD (xS X)) i (tn kd) (tn t) (tn ky) (tn nm)) = 0) (sR (xS X)).1), X)
noncomputable def o_leastDepth (X : SX) (kd t ky nm : Int32) : Int32 × SX := by
  classical
  exact
    if ¬ oE kd t ky nm = 0 then (oE kd t ky nm, X)
    else (lstF (fun d => rsn (rnS (xS X) d 99 (tn kd) (tn t) (tn ky) (tn nm)) = 0) 9 0, X)
/-- the characters in a long; how many there are (0: it is none of characters) -/
abbrev byt (u j : Nat) : Nat := u / 256 ^ j % 256
def sgnN (u : Nat) : Nat → Nat → Nat
  | 0, j => j
  | m + 1, j => if u / 256 ^ j = 0 then j else if byt u j < 33 ∨ 126 < byt u j then 0 else sgnN u m (j + 1)
abbrev uL (c : Int64) : Nat := c.toBitVec.toNat
def putP (P : PD) (u n : Nat) : PD := (P.1 + n, fun i => if i < P.1 then P.2 i else byt u (n - 1 - (i - P.1)))
noncomputable def o_put (X : SX) (c : Int64) : Int32 × SX := by
  classical
  exact
    if sgnN (uL c) 8 0 = 0 then (-2, X) else if 60 < sgnN (uL c) 8 0 + (xP X).1 then (-4, X)
    else (nI ((xP X).1 + sgnN (uL c) 8 0), (xS X, xH X, xL X, putP (xP X) (uL c) (sgnN (uL c) 8 0)))
def o_wipe (X : SX) : Int32 × SX := (nI (xP X).1, (xS X, xH X, xL X, (0, (xP X).2)))
/-- the sign at a place, 0 behind the end; a number: its first digit, and how many more it may have -/
def sg (P : PD) (a : Nat) : Nat := if a < P.1 then P.2 a else 0
def nmL (P : PD) : Nat → Nat → Nat → Nat × Nat
  | 0, a, n => (n, a)
  | k + 1, a, n => if ¬ n = 0 ∧ 48 ≤ sg P a ∧ sg P a ≤ 57 then nmL P k (a + 1) (n * 10 + (sg P a - 48)) else (n, a)
def nmP (P : PD) (b k a : Nat) : Option (Nat × Nat) := if 48 ≤ sg P a ∧ sg P a < 48 + b then some (nmL P k (a + 1) (sg P a - 48)) else none
/-- a statement that was read: kind, table, key, number -/
abbrev ST4 : Type := Nat × Nat × Nat × Nat
def stmP (P : PD) (a : Nat) : Nat × Option ST4 :=
  if ¬ (sg P a = 108 ∨ sg P a = 97 ∨ sg P a = 100) then (a, none) else
  match nmP P 4 0 (a + 1) with
  | none => (a + 1, none)
  | some (t, a2) =>
    if ¬ sg P a2 = 46 then (a2, none) else
    match nmP P 10 1 (a2 + 1) with
    | none => (a2 + 1, none)
    | some (ky, a3) =>
      if sg P a = 100 then (a3, some (2, t, ky, 0)) else
      if ¬ sg P a3 = (if sg P a = 108 then 61 else 43) then (a3, none) else
      match nmP P 10 2 (a3 + 1) with
      | none => (a3 + 1, none)
      | some (nm, a4) => (a4, some ((if sg P a = 108 then 0 else 1), t, ky, nm))
abbrev SQ : Type := Nat × (Nat → ST4)
def psh (l : SQ) (x : ST4) : SQ := (l.1 + 1, fun i => if i = l.1 then x else l.2 i)
def prsP (P : PD) : Nat → Nat → SQ → Option Nat × SQ
  | 0, a, l => (some a, l)
  | n + 1, a, l => match stmP P a with
    | (a2, none) => (some a2, l)
    | (a2, some x) => if P.1 ≤ a2 then (none, psh l x) else if sg P a2 = 59 then prsP P n (a2 + 1) (psh l x) else (some a2, psh l x)
def rdP (P : PD) : Option Nat × SQ := prsP P 13 0 (0, fun _ => (0, 0, 0, 0))
def o_fault (X : SX) : Int32 × SX := ((match (rdP (xP X)).1 with | none => -6 | some a => nI a), X)
noncomputable def cryS (f : Nat → ST4) : Nat → Nat → SG → Nat × SG
  | 0, i, σ => (i, σ)
  | m + 1, i, σ => if rsn (rnS σ (sD σ) 99 (f i).1 (f i).2.1 (f i).2.2.1 (f i).2.2.2) = 0 then cryS f m (i + 1) (tkS σ (rnS σ (sD σ) 99 (f i).1 (f i).2.1 (f i).2.2.1 (f i).2.2.2)) else (i, σ)
noncomputable def o_carryOut (X : SX) : Int32 × SX :=
  if (rdP (xP X)).1 = none then (nI (cryS (rdP (xP X)).2.2 (rdP (xP X)).2.1 0 (xS X)).1, ((cryS (rdP (xP X)).2.2 (rdP (xP X)).2.1 0 (xS X)).2, kpH (xH X) (xS X), xL X, (0, (xP X).2)))
  else (-3, X)
def o_undo (X : SX) : Int32 × SX := if (xH X).1 = 0 then (-5, X) else (nI ((xH X).1 - 1), ((xH X).2 ((xH X).1 - 1), ((xH X).1 - 1, (xH X).2), X.2.2))
noncomputable def o_save (X : SX) (s : Int32) : Int32 × SX := by
  classical
  exact
    if ¬ wi s 2 then (-2, X) else (nI (allT (sT (xS X))), (xS X, xH X, (fun i => if i = tn s then some (xS X) else xL X i), xP X))
noncomputable def o_restore (X : SX) (s : Int32) : Int32 × SX := by
  classical
  exact
    if ¬ wi s 2 then (-2, X) else match xL X (tn s) with
    | none => (-5, X)
    | some σ => (nI (allT (sT σ)), (σ, kpH (xH X) (xS X), xL X, xP X))
/-! each call keeps what holds of the object -/
theorem wfC_of {σ : SG} {D O : Nat} (h : wfS σ) (hD : D ≤ 8) : wfC (D, sL σ, O, sR σ) := ⟨hD, h.2.1, h.2.2.2.1⟩
theorem rnS_wf {σ : SG} {D O kd t ky nm : Nat} (h : wfS σ) (hD : D ≤ 8) (ht : t < 4) (hk : ky < 100) (hn : nm < 1000) : wfX (D, sL σ, O, sR σ) 0 0 (rnS σ D O kd t ky nm) := runS_wf (wfC_of h hD) h.2.2.1 ht hk hn
theorem wfS_tk {σ : SG} {g : CF} {r : RS} (h : wfS σ) (hX : wfX g 0 0 r) : wfS (tkS σ r) := ⟨h.1, h.2.1, hX.1, h.2.2.2.1, by have := hX.2.1; have := hX.2.2.1; show (rsJ r).1 ≤ 100; omega⟩
theorem oE_0 {kd t ky nm : Int32} (h : oE kd t ky nm = 0) : wi t 4 ∧ wi kd 3 ∧ wi ky 100 ∧ wi nm 1000 := by
  unfold oE at h
  split at h
  · exact absurd h (by decide)
  · rename_i h1
    split at h
    · exact absurd h (by decide)
    · rename_i h2
      have h3 := Classical.not_not.mp h1
      have h4 := Classical.not_not.mp h2
      exact ⟨h3, h4⟩
theorem tn_lt {x : Int32} {L : Nat} (hL : L < 2 ^ 31) (h : wi x L) : tn x < L := by
  obtain ⟨j, hj, rfl⟩ := h
  rw [tn_nI (by omega)]
  exact hj
theorem wfS_R {σ : SG} {ρ : TR} (h : wfS σ) (hr : wfR ρ) : wfS (wR σ ρ) := ⟨h.1, h.2.1, h.2.2.1, hr, h.2.2.2.2⟩
theorem w_o_set {X : SX} {s v : Int32} (h : wfO X) : wfO (o_set X s v).2 := by
  unfold o_set
  split
  · rename_i h1
    exact ⟨⟨Nat.le_of_lt_succ (tn_lt (by decide) h1.2), h.1.2⟩, wfH_kp h.2.1 h.1, h.2.2⟩
  · split
    · rename_i h1
      exact ⟨⟨h.1.1, Nat.le_of_lt_succ (tn_lt (by decide) h1.2), h.1.2.2⟩, wfH_kp h.2.1 h.1, h.2.2⟩
    · exact h
theorem w_o_trigger {X : SX} {t k s b : Int32} (h : wfO X) : wfO (o_trigger X t k s b).2 := by
  unfold o_trigger
  split
  · exact h
  · rename_i h1
    split
    · exact h
    · rename_i h2
      split
      · exact h
      · rename_i h3
        have g1 := Classical.not_not.mp h1
        have g2 := Classical.not_not.mp h2
        exact ⟨wfS_R h.1 (wfR_add h.1.2.2.2.1 (by omega) (tn_lt (by decide) g1) (tn_lt (by decide) g2.1) (tn_lt (by decide) g2.2.1) (tn_lt (by decide) g2.2.2)), wfH_kp h.2.1 h.1, h.2.2⟩
theorem w_o_deed {X : SX} {q d t s m : Int32} (h : wfO X) : wfO (o_deed X q d t s m).2 := by
  unfold o_deed
  split
  · exact h
  · rename_i h1
    split
    · exact h
    · rename_i h2
      have g1 := Classical.not_not.mp h1
      have g2 := Classical.not_not.mp h2
      exact ⟨wfS_R h.1 (wfR_deed h.1.2.2.2.1 (tn_lt (by decide) g2.1) (tn_lt (by decide) g1.2) (tn_lt (by decide) g2.2.1) (tn_lt (by decide) g2.2.2)), wfH_kp h.2.1 h.1, h.2.2⟩
theorem w_o_dropTrigger {X : SX} {q : Int32} (h : wfO X) : wfO (o_dropTrigger X q).2 := by
  unfold o_dropTrigger
  split
  · exact h
  · exact ⟨wfS_R h.1 (wfR_drp h.1.2.2.2.1), wfH_kp h.2.1 h.1, h.2.2⟩
theorem w_o_state {X : SX} {kd t ky nm : Int32} (h : wfO X) : wfO (o_state X kd t ky nm).2 := by
  unfold o_state
  split
  · exact h
  · rename_i h1
    split
    · exact h
    · obtain ⟨g1, g2, g3, g4⟩ := oE_0 (Classical.not_not.mp h1)
      exact ⟨wfS_tk h.1 (rnS_wf h.1 h.1.1 (tn_lt (by decide) g1) (tn_lt (by decide) g3) (tn_lt (by decide) g4)), wfH_kp h.2.1 h.1, h.2.2⟩
theorem w_o_same {X : SX} {p : Int32 × SX} (h : wfO X) (e : p.2 = X) : wfO p.2 := e ▸ h
theorem s_o_tried {X : SX} {kd t ky nm w : Int32} : (o_tried X kd t ky nm w).2 = X := by unfold o_tried; repeat (split <;> try rfl)
theorem s_o_row {X : SX} {t p w : Int32} : (o_row X t p w).2 = X := by unfold o_row; repeat (split <;> try rfl)
theorem s_o_value {X : SX} {t w : Int32} : (o_value X t w).2 = X := by
  unfold o_value
  split
  · rfl
  · split
    · rfl
    · split
      · rfl
      · rfl
theorem s_o_ofTrigger {X : SX} {t w : Int32} : (o_ofTrigger X t w).2 = X := by unfold o_ofTrigger; repeat (split <;> try rfl)
theorem s_o_journal {X : SX} {t w : Int32} : (o_journal X t w).2 = X := by unfold o_journal; repeat (split <;> try rfl)
theorem s_o_count {X : SX} {w : Int32} : (o_count X w).2 = X := by unfold o_count; repeat (split <;> try rfl)
theorem s_o_culprits {X : SX} {kd t ky nm : Int32} : (o_culprits X kd t ky nm).2 = X := by unfold o_culprits; repeat (split <;> try rfl)
theorem s_o_leastDepth {X : SX} {kd t ky nm : Int32} : (o_leastDepth X kd t ky nm).2 = X := by unfold o_leastDepth; repeat (split <;> try rfl)
theorem w_o_wipe {X : SX} (h : wfO X) : wfO (o_wipe X).2 := ⟨h.1, h.2.1, h.2.2.1, Nat.zero_le _, fun i hi => absurd hi (Nat.not_lt_zero _)⟩
theorem w_o_undo {X : SX} (h : wfO X) : wfO (o_undo X).2 := by
  unfold o_undo
  split
  · exact h
  · have := h.2.1.1
    exact ⟨h.2.1.2 _ (by omega), ⟨by show (xH X).1 - 1 ≤ 6; omega, fun i hi => h.2.1.2 i (by have : i < (xH X).1 - 1 := hi; omega)⟩, h.2.2⟩
theorem w_o_save {X : SX} {s : Int32} (h : wfO X) : wfO (o_save X s).2 := by
  unfold o_save
  split
  · exact h
  · refine ⟨h.1, h.2.1, fun i hi σ e => ?_, h.2.2.2⟩
    have e2 : (if i = tn s then some (xS X) else xL X i) = some σ := e
    split at e2
    · cases e2; exact h.1
    · exact h.2.2.1 i hi σ e2
theorem w_o_restore {X : SX} {s : Int32} (h : wfO X) : wfO (o_restore X s).2 := by
  unfold o_restore
  split
  · exact h
  · rename_i h1
    have g := tn_lt (by decide) (Classical.not_not.mp h1)
    split
    · exact h
    · rename_i σ e
      exact ⟨h.2.2.1 _ g σ e, wfH_kp h.2.1 h.1, h.2.2⟩
theorem sgnN_le (u : Nat) : ∀ m j, sgnN u m j ≤ j + m
  | 0, j => Nat.le_refl _
  | m + 1, j => by
    unfold sgnN
    have := sgnN_le u m (j + 1)
    split
    · omega
    · split <;> omega
theorem sgnN_byt (u : Nat) : ∀ m j, ∀ q, j ≤ q → q < sgnN u m j → 33 ≤ byt u q ∧ byt u q ≤ 126
  | 0, j, q, h1, h2 => by unfold sgnN at h2; omega
  | m + 1, j, q, h1, h2 => by
    unfold sgnN at h2
    split at h2
    · omega
    · split at h2
      · omega
      · by_cases e : q = j
        · subst e; omega
        · exact sgnN_byt u m (j + 1) q (by omega) h2
theorem w_o_put {X : SX} {c : Int64} (h : wfO X) : wfO (o_put X c).2 := by
  unfold o_put
  split
  · exact h
  · split
    · exact h
    · refine ⟨h.1, h.2.1, h.2.2.1, by show (xP X).1 + _ ≤ 60; omega, fun i hi => ?_⟩
      have hi2 : i < (xP X).1 + sgnN (uL c) 8 0 := hi
      show 33 ≤ (if i < (xP X).1 then (xP X).2 i else byt (uL c) (sgnN (uL c) 8 0 - 1 - (i - (xP X).1))) ∧ (if i < (xP X).1 then (xP X).2 i else byt (uL c) (sgnN (uL c) 8 0 - 1 - (i - (xP X).1))) ≤ 126
      split
      · exact h.2.2.2.2 i (by assumption)
      · exact sgnN_byt (uL c) 8 0 _ (Nat.zero_le _) (by omega)
