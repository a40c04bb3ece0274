/-! PURE: what a call that changes the object does: an answer, and a new state (none: it is refused, and nothing is changed) -/
def okF (X : SX) (p : Int32 × SX) (q : Int32 × Option SG) : Prop := p.1 = q.1 ∧ ((q.2 = none ∧ q.1 < 0 ∧ p.2 = X) ∨ ∃ σ, q.2 = some σ ∧ ¬ q.1 < 0 ∧ p.2 = (σ, kpH (xH X) (xS X), xL X, xP X))
noncomputable def f_set (σ : SG) (s v : Int32) : Int32 × Option SG := by
  classical
  exact
    if s = 0 ∧ wi v 9 then (nI (sD σ), some (tn v, σ.2))
    else if s = 1 ∧ wi v 2 then (nI (sL σ), some (sD σ, tn v, σ.2.2))
    else (-2, none)
noncomputable def f_trigger (σ : SG) (t k s b : Int32) : Int32 × Option SG := by
  classical
  exact
    if ¬ wi t 4 then (-1, none) else if ¬ (wi k 3 ∧ wi s 3 ∧ wi b 1000) then (-2, none) else if 12 ≤ (sR σ).1 then (-4, none)
    else (nI (sR σ).1, some (wR σ (addR (sR σ) (tn t) (tn k) (tn s) (tn b))))
noncomputable def f_deed (σ : SG) (q d t s m : Int32) : Int32 × Option SG := by
  classical
  exact
    if ¬ (wi q (sR σ).1 ∧ wi t 4) then (-1, none) else if ¬ (wi d 4 ∧ wi s 100 ∧ wi m 1000) then (-2, none)
    else (nI ((sR σ).2 (tn q) 4), some (wR σ (deedR (sR σ) (tn q) (tn d) (tn t) (tn s) (tn m))))
noncomputable def f_drop (σ : SG) (q : Int32) : Int32 × Option SG := by
  classical
  exact
    if ¬ wi q (sR σ).1 then (-1, none) else (nI ((sR σ).1 - 1), some (wR σ (drpR (sR σ) (tn q))))
noncomputable def f_state (σ : SG) (kd t ky nm : Int32) : Int32 × Option SG := by
  classical
  exact
    if ¬ oE kd t ky nm = 0 then (oE kd t ky nm, none)
    else if ¬ rsn (rnS σ (sD σ) 99 (tn kd) (tn t) (tn ky) (tn nm)) = 0 then (-5, none)
    else (nI (rsJ (rnS σ (sD σ) 99 (tn kd) (tn t) (tn ky) (tn nm))).1, some (tkS σ (rnS σ (sD σ) 99 (tn kd) (tn t) (tn ky) (tn nm))))
noncomputable def f_restore (l : SL) (s : Int32) : Int32 × Option SG := by
  classical
  exact
    if ¬ wi s 2 then (-2, none) else match l (tn s) with
    | none => (-5, none)
    | some σ => (nI (allT (sT σ)), some σ)
theorem okF_no {X : SX} {a : Int32} (h : a < 0) : okF X (a, X) (a, none) := ⟨rfl, Or.inl ⟨rfl, h, rfl⟩⟩
theorem okF_yes {X : SX} {a : Nat} {σ : SG} (h : a < 2 ^ 31) : okF X (nI a, (σ, kpH (xH X) (xS X), X.2.2)) (nI a, some σ) := ⟨rfl, Or.inr ⟨σ, rfl, nI_pos h, rfl⟩⟩
theorem n_set {X : SX} {s v : Int32} (h : wfO X) : okF X (o_set X s v) (f_set (xS X) s v) := by
  unfold o_set f_set
  by_cases h1 : s = 0 ∧ wi v 9
  · rw [if_pos h1, if_pos h1]
    exact okF_yes (by have := h.1.1; omega)
  · rw [if_neg h1, if_neg h1]
    by_cases h2 : s = 1 ∧ wi v 2
    · rw [if_pos h2, if_pos h2]
      exact okF_yes (by have := h.1.2.1; omega)
    · rw [if_neg h2, if_neg h2]
      exact okF_no (by decide)
theorem n_trigger {X : SX} {t k s b : Int32} (h : wfO X) : okF X (o_trigger X t k s b) (f_trigger (xS X) t k s b) := by
  have h9 := h.1.2.2.2.1.1
  unfold o_trigger f_trigger
  by_cases h1 : ¬ wi t 4
  · rw [if_pos h1, if_pos h1]
    exact okF_no (by decide)
  · rw [if_neg h1, if_neg h1]
    by_cases h2 : ¬ (wi k 3 ∧ wi s 3 ∧ wi b 1000)
    · rw [if_pos h2, if_pos h2]
      exact okF_no (by decide)
    · rw [if_neg h2, if_neg h2]
      by_cases h3 : 12 ≤ (sR (xS X)).1
      · rw [if_pos h3, if_pos h3]
        exact okF_no (by decide)
      · rw [if_neg h3, if_neg h3]
        exact okF_yes (by omega)
theorem n_deed {X : SX} {q d t s m : Int32} (h : wfO X) : okF X (o_deed X q d t s m) (f_deed (xS X) q d t s m) := by
  have h9 := h.1.2.2.2.1.1
  unfold o_deed f_deed
  by_cases h1 : ¬ (wi q (sR (xS X)).1 ∧ wi t 4)
  · rw [if_pos h1, if_pos h1]
    exact okF_no (by decide)
  · rw [if_neg h1, if_neg h1]
    by_cases h2 : ¬ (wi d 4 ∧ wi s 100 ∧ wi m 1000)
    · rw [if_pos h2, if_pos h2]
      exact okF_no (by decide)
    · rw [if_neg h2, if_neg h2]
      have h3 := (h.1.2.2.2.1.2 (tn q) (tn_lt (by omega) (Classical.not_not.mp h1).1)).2.2.2.2.1
      exact okF_yes (by omega)
theorem n_drop {X : SX} {q : Int32} (h : wfO X) : okF X (o_dropTrigger X q) (f_drop (xS X) q) := by
  have h9 := h.1.2.2.2.1.1
  unfold o_dropTrigger f_drop
  by_cases h1 : ¬ wi q (sR (xS X)).1
  · rw [if_pos h1, if_pos h1]
    exact okF_no (by decide)
  · rw [if_neg h1, if_neg h1]
    exact okF_yes (by omega)
theorem oE_neg {kd t ky nm : Int32} (h : ¬ oE kd t ky nm = 0) : oE kd t ky nm < 0 := by
  unfold oE at h ⊢
  by_cases h1 : ¬ wi t 4
  · rw [if_pos h1]; decide
  · rw [if_neg h1] at h ⊢
    by_cases h2 : ¬ (wi kd 3 ∧ wi ky 100 ∧ wi nm 1000)
    · rw [if_pos h2]; decide
    · rw [if_neg h2] at h
      exact absurd rfl h
theorem n_state {X : SX} {kd t ky nm : Int32} (h : wfO X) : okF X (o_state X kd t ky nm) (f_state (xS X) kd t ky nm) := by
  unfold o_state f_state
  by_cases h1 : ¬ oE kd t ky nm = 0
  · rw [if_pos h1, if_pos h1]
    exact okF_no (oE_neg h1)
  · rw [if_neg h1, if_neg h1]
    by_cases h2 : ¬ rsn (rnS (xS X) (sD (xS X)) 99 (tn kd) (tn t) (tn ky) (tn nm)) = 0
    · rw [if_pos h2, if_pos h2]
      exact okF_no (by decide)
    · rw [if_neg h2, if_neg h2]
      obtain ⟨g1, g2, g3, g4⟩ := oE_0 (Classical.not_not.mp h1)
      have hX := rnS_wf (O := 99) (kd := tn kd) h.1 h.1.1 (tn_lt (by decide) g1) (tn_lt (by decide) g3) (tn_lt (by decide) g4)
      have h3 := hX.2.1
      have h4 := hX.2.2.1
      exact okF_yes (by omega)
theorem n_restore {X : SX} {s : Int32} (h : wfO X) : okF X (o_restore X s) (f_restore (xL X) s) := by
  unfold o_restore f_restore
  by_cases h1 : ¬ wi s 2
  · rw [if_pos h1, if_pos h1]
    exact okF_no (by decide)
  · rw [if_neg h1, if_neg h1]
    have g := tn_lt (by decide) (Classical.not_not.mp h1)
    have hw := h.2.2.1 _ g
    rcases e : xL X (tn s) with _ | σ
    · exact okF_no (by decide)
    · have h2 := (hw σ e).2.2.1
      have z0 := (h2 0 (by decide)).1
      have z1 := (h2 1 (by decide)).1
      have z2 := (h2 2 (by decide)).1
      have z3 := (h2 3 (by decide)).1
      exact okF_yes (by show 0 + zT (sT σ) 0 + zT (sT σ) 1 + zT (sT σ) 2 + zT (sT σ) 3 < 2 ^ 31; omega)
/-! a call of the law, as one function of the object; its answer and its new state hang on the state and the slots alone -/
def ACT (v : Int32) (F : SX → Int32 × SX) : Prop := ∃ f : SG → SL → Int32 × Option SG, (∀ X, wfO X → okF X (F X) (f (xS X) (xL X))) ∧ (∀ X, wfO X → wfO (F X).2) ∧ (∀ σ l σ', (f σ l).2 = some σ' → wfS σ → asT (sT σ) → (∀ σ0, l 0 = some σ0 → asT (sT σ0)) → l 1 = none → asT (sT σ')) ∧ (v &&& nI 15 = nI 6 → ∀ σ l σ', (f σ l).2 = some σ' → l 1 = none → l 0 = some σ')
theorem some_inj {σ σ' : SG} (h : some σ = some σ') : σ = σ' := by cases h; rfl
theorem act_set {v : Int32} (s x : Int32) (hv : ¬ v &&& nI 15 = nI 6) : ACT v (fun X => o_set X s x) := by
  refine ⟨fun σ _ => f_set σ s x, fun X h => n_set h, fun X h => w_o_set h, fun σ l σ' e hw ha _ _ => ?_, fun z => absurd z hv⟩
  have e2 : (f_set σ s x).2 = some σ' := e
  unfold f_set at e2
  by_cases h1 : s = 0 ∧ wi x 9
  · rw [if_pos h1] at e2; cases some_inj e2; exact ha
  · rw [if_neg h1] at e2
    by_cases h2 : s = 1 ∧ wi x 2
    · rw [if_pos h2] at e2; cases some_inj e2; exact ha
    · rw [if_neg h2] at e2; cases e2
theorem act_trigger {v : Int32} (t k s b : Int32) (hv : ¬ v &&& nI 15 = nI 6) : ACT v (fun X => o_trigger X t k s b) := by
  refine ⟨fun σ _ => f_trigger σ t k s b, fun X h => n_trigger h, fun X h => w_o_trigger h, fun σ l σ' e hw ha _ _ => ?_, fun z => absurd z hv⟩
  have e2 : (f_trigger σ t k s b).2 = some σ' := e
  unfold f_trigger at e2
  by_cases h1 : ¬ wi t 4
  · rw [if_pos h1] at e2; cases e2
  · rw [if_neg h1] at e2
    by_cases h2 : ¬ (wi k 3 ∧ wi s 3 ∧ wi b 1000)
    · rw [if_pos h2] at e2; cases e2
    · rw [if_neg h2] at e2
      by_cases h3 : 12 ≤ (sR σ).1
      · rw [if_pos h3] at e2; cases e2
      · rw [if_neg h3] at e2; cases some_inj e2; exact ha
theorem act_deed {v : Int32} (q d t s m : Int32) (hv : ¬ v &&& nI 15 = nI 6) : ACT v (fun X => o_deed X q d t s m) := by
  refine ⟨fun σ _ => f_deed σ q d t s m, fun X h => n_deed h, fun X h => w_o_deed h, fun σ l σ' e hw ha _ _ => ?_, fun z => absurd z hv⟩
  have e2 : (f_deed σ q d t s m).2 = some σ' := e
  unfold f_deed at e2
  by_cases h1 : ¬ (wi q (sR σ).1 ∧ wi t 4)
  · rw [if_pos h1] at e2; cases e2
  · rw [if_neg h1] at e2
    by_cases h2 : ¬ (wi d 4 ∧ wi s 100 ∧ wi m 1000)
    · rw [if_pos h2] at e2; cases e2
    · rw [if_neg h2] at e2; cases some_inj e2; exact ha
theorem act_drop {v : Int32} (q : Int32) (hv : ¬ v &&& nI 15 = nI 6) : ACT v (fun X => o_dropTrigger X q) := by
  refine ⟨fun σ _ => f_drop σ q, fun X h => n_drop h, fun X h => w_o_dropTrigger h, fun σ l σ' e hw ha _ _ => ?_, fun z => absurd z hv⟩
  have e2 : (f_drop σ q).2 = some σ' := e
  unfold f_drop at e2
  by_cases h1 : ¬ wi q (sR σ).1
  · rw [if_pos h1] at e2; cases e2
  · rw [if_neg h1] at e2; cases some_inj e2; exact ha
theorem act_state {v : Int32} (kd t ky nm : Int32) (hv : ¬ v &&& nI 15 = nI 6) : ACT v (fun X => o_state X kd t ky nm) := by
  refine ⟨fun σ _ => f_state σ kd t ky nm, fun X h => n_state h, fun X h => w_o_state h, fun σ l σ' e hw ha _ _ => ?_, fun z => absurd z hv⟩
  have e2 : (f_state σ kd t ky nm).2 = some σ' := e
  unfold f_state at e2
  by_cases h1 : ¬ oE kd t ky nm = 0
  · rw [if_pos h1] at e2; cases e2
  · rw [if_neg h1] at e2
    by_cases h2 : ¬ rsn (rnS σ (sD σ) 99 (tn kd) (tn t) (tn ky) (tn nm)) = 0
    · rw [if_pos h2] at e2; cases e2
    · rw [if_neg h2] at e2
      obtain ⟨g1, g2, g3, g4⟩ := oE_0 (Classical.not_not.mp h1)
      cases some_inj e2
      exact (runS_wfY (wfC_of hw hw.1) (kd := tn kd) hw.2.2.1 ha (tn_lt (by decide) g1) (tn_lt (by decide) g3) (tn_lt (by decide) g4)).1
theorem tn2 {s : Int32} (h : wi s 2) : tn s = 0 ∨ tn s = 1 := by
  have := tn_lt (by decide) h
  omega
theorem f_res {l : SL} {s : Int32} {σ' : SG} (e : (f_restore l s).2 = some σ') (h1 : l 1 = none) : l 0 = some σ' := by
  unfold f_restore at e
  by_cases h2 : ¬ wi s 2
  · rw [if_pos h2] at e; cases e
  · rw [if_neg h2] at e
    rcases tn2 (Classical.not_not.mp h2) with h3 | h3
    · rw [h3] at e
      rcases e0 : l 0 with _ | σ0
      · rw [e0] at e; cases e
      · rw [e0] at e
        exact e
    · rw [h3, h1] at e
      cases e
theorem act_restore {v : Int32} (s : Int32) : ACT v (fun X => o_restore X s) := by
  refine ⟨fun _ l => f_restore l s, fun X h => n_restore h, fun X h => w_o_restore h, fun σ l σ' e hw ha h0 h1 => ?_, fun _ σ l σ' e h1 => f_res e h1⟩
  exact h0 σ' (f_res e h1)
/-! the answers that the law reads, on one state -/
def cvS (σ : SG) (w : Nat) : Int32 :=
  if w < 4 then nI (zT (sT σ) w) else if w = 4 then nI (sR σ).1 else if w = 5 then nI (sJ σ).1 else if w = 6 then nI (sumT (sT σ) 4) else if w = 7 then nI (sD σ)
  else if w = 8 then nI (sL σ) else nI (slfN (sR σ) (sR σ).1)
def oft (σ : SG) (k w : Nat) : Int32 := if w < 8 then nI ((sR σ).2 k w) else if w = 8 then nI (fol (sR σ) k) else (if slfB (sR σ) k = true then 1 else 0)
theorem v_count {X : SX} {k : Nat} (hk : k < 12) : (o_count X (nI k)).1 = cval X k := by
  unfold o_count
  rw [if_pos ⟨k, hk, rfl⟩]
  show cval X (tn (nI k)) = _
  rw [tn_nI (by omega)]
theorem v_cvS {X : SX} {k : Nat} (hk : k < 10) : (o_count X (nI k)).1 = cvS (xS X) k := by
  rw [v_count (by omega)]
  unfold cval cvS
  by_cases h9 : k = 9
  · subst h9; rfl
  · rw [if_neg h9, if_neg (by omega : ¬ k = 10)]
    by_cases a : k < 4
    · rw [if_pos a, if_pos a]
    · rw [if_neg a, if_neg a]
      rcases (show k = 4 ∨ k = 5 ∨ k = 6 ∨ k = 7 ∨ k = 8 by omega) with rfl | rfl | rfl | rfl | rfl <;> rfl
theorem v_row0 {X : SX} {t p : Nat} (ht : t < 4) (hp : p < zT (sT (xS X)) t) (hz : zT (sT (xS X)) t ≤ 12) : (o_row X (nI t) (nI p) (nI 0)).1 = nI (kT (sT (xS X)) t p) := by
  unfold o_row
  rw [if_neg (fun z => z ⟨t, ht, rfl⟩), tn_nI (show t < 2 ^ 31 by omega), if_neg (fun z => z ⟨p, hp, rfl⟩), tn_nI (show p < 2 ^ 31 by omega), if_pos (by decide : nI 0 = 0)]
theorem v_row1 {X : SX} {t p : Nat} (ht : t < 4) (hp : p < zT (sT (xS X)) t) (hz : zT (sT (xS X)) t ≤ 12) : (o_row X (nI t) (nI p) (nI 1)).1 = nI (nT (sT (xS X)) t p) := by
  unfold o_row
  rw [if_neg (fun z => z ⟨t, ht, rfl⟩), tn_nI (show t < 2 ^ 31 by omega), if_neg (fun z => z ⟨p, hp, rfl⟩), tn_nI (show p < 2 ^ 31 by omega), if_neg (by decide : ¬ nI 1 = 0), if_pos (by decide : nI 1 = 1)]
theorem v_rowE {X : SX} {t : Nat} (ht : t < 4) (hz : zT (sT (xS X)) t ≤ 12) : (o_row X (nI t) (nI (zT (sT (xS X)) t)) (nI 0)).1 = -1 := by
  unfold o_row
  rw [if_neg (fun z => z ⟨t, ht, rfl⟩), tn_nI (show t < 2 ^ 31 by omega), if_pos (fun q => absurd ((in_nI (by omega) (by omega)).mp q) (Nat.lt_irrefl _))]
theorem pl_as {τ : TB} {t p : Nat} (ha : asT τ) (ht : t < 4) (hp : p < zT τ t) : plT τ t (kT τ t p) = p := fpl_at _ hp rfl (fun i hi e => absurd (ha t ht i p hi hp) (by omega))
theorem v_value {X : SX} {t p : Nat} (ha : asT (sT (xS X))) (ht : t < 4) (hp : p < zT (sT (xS X)) t) (hk : kT (sT (xS X)) t p < 100) : (o_value X (nI t) (nI (kT (sT (xS X)) t p))).1 = nI (nT (sT (xS X)) t p) := by
  unfold o_value
  rw [if_neg (fun z => z ⟨t, ht, rfl⟩), if_neg (fun z => z ⟨_, hk, rfl⟩), tn_nI (show t < 2 ^ 31 by omega), tn_nI (show kT (sT (xS X)) t p < 2 ^ 31 by omega), pl_as ha ht hp, if_neg (by omega)]
theorem v_ofT {X : SX} {k w : Nat} (hn : (sR (xS X)).1 ≤ 12) (hk : k < (sR (xS X)).1) (hw : w < 10) : (o_ofTrigger X (nI k) (nI w)).1 = oft (xS X) k w := by
  unfold o_ofTrigger oft
  rw [if_neg (fun z => z ⟨k, hk, rfl⟩), tn_nI (show k < 2 ^ 31 by omega)]
  by_cases h8 : w < 8
  · rw [if_pos ⟨w, h8, rfl⟩, if_pos h8, tn_nI (show w < 2 ^ 31 by omega)]
  · rw [if_neg (fun z => h8 ((in_nI (by omega) (by omega)).mp z)), if_neg h8]
    rcases (show w = 8 ∨ w = 9 by omega) with rfl | rfl
    · rw [if_pos (by decide : nI 8 = 8), if_pos rfl]
    · rw [if_neg (by decide : ¬ nI 9 = 8), if_pos (by decide : nI 9 = 9)]
      rfl
theorem v_journal {X : SX} {k w : Nat} (hn : (sJ (xS X)).1 ≤ 100) (hk : k < (sJ (xS X)).1) (hw : w < 6) : (o_journal X (nI k) (nI w)).1 = (sJ (xS X)).2 k w := by
  unfold o_journal
  rw [if_neg (fun z => z ⟨k, hk, rfl⟩), if_neg (fun z => z ⟨w, hw, rfl⟩), tn_nI (show k < 2 ^ 31 by omega), tn_nI (show w < 2 ^ 31 by omega)]
theorem oE_nI {kd t ky : Nat} (hk : kd < 3) (ht : t < 4) (hy : ky < 100) : oE (nI kd) (nI t) (nI ky) (nI 5) = 0 := oE_3 ⟨t, ht, rfl⟩ ⟨⟨kd, hk, rfl⟩, ⟨ky, hy, rfl⟩, 5, by decide, rfl⟩
noncomputable abbrev rn5 (σ : SG) (kd t ky : Nat) : RS := rnS σ (sD σ) 99 kd t ky 5
theorem v_tried {X : SX} {kd t ky w : Nat} (hk : kd < 3) (ht : t < 4) (hy : ky < 100) (hw : w < 21) : (o_tried X (nI kd) (nI t) (nI ky) (nI 5) (nI w)).1 = tval (rn5 (xS X) kd t ky) w := by
  unfold o_tried
  rw [if_neg (fun z => z (oE_nI hk ht hy)), if_neg (fun z => z ⟨w, hw, rfl⟩), tn_nI (show kd < 2 ^ 31 by omega), tn_nI (show t < 2 ^ 31 by omega), tn_nI (show ky < 2 ^ 31 by omega), tn_nI (show 5 < 2 ^ 31 by decide), tn_nI (show w < 2 ^ 31 by omega)]
theorem culN_lt {ok : Nat → Prop} [∀ i, Decidable (ok i)] : ∀ k, k ≤ 12 → culN ok k < 4096
  | 0, _ => Nat.zero_lt_succ _
  | k + 1, h => by
    have h2 := culN_lt (ok := ok) k (by omega)
    unfold culN
    split
    · exact or_lt12 h2 (p12 (by omega))
    · exact h2
theorem v_culprits {X : SX} {kd t ky : Nat} (hO : wfO X) (hk : kd < 3) (ht : t < 4) (hy : ky < 100) : (rsn (rn5 (xS X) kd t ky) = 0 ∧ (o_culprits X (nI kd) (nI t) (nI ky) (nI 5)).1 = -6) ∨ (¬ rsn (rn5 (xS X) kd t ky) = 0 ∧ ¬ (o_culprits X (nI kd) (nI t) (nI ky) (nI 5)).1 = -6) := by
  unfold o_culprits
  rw [if_neg (fun z => z (oE_nI hk ht hy)), tn_nI (show kd < 2 ^ 31 by omega), tn_nI (show t < 2 ^ 31 by omega), tn_nI (show ky < 2 ^ 31 by omega), tn_nI (show 5 < 2 ^ 31 by decide)]
  by_cases h : rsn (rn5 (xS X) kd t ky) = 0
  · refine Or.inl ⟨h, ?_⟩
    rw [if_pos h]
  · refine Or.inr ⟨h, ?_⟩
    rw [if_neg h]
    exact nI_nneg (Nat.lt_trans (culN_lt _ hO.1.2.2.2.1.1) (by decide)) (by decide)
/-- what the law asks of a trial -/
theorem v_is {X : SX} {kd t ky : Nat} (hO : wfO X) (ha : asT (sT (xS X))) (ht : t < 4) (hy : ky < 100) : rsP (rn5 (xS X) kd t ky) ≤ sD (xS X) ∧ (rsn (rn5 (xS X) kd t ky) = 0 → 0 < (rsJ (rn5 (xS X) kd t ky)).1 ∧ (rsJ (rn5 (xS X) kd t ky)).1 + rsL (rn5 (xS X) kd t ky) = rsB (rn5 (xS X) kd t ky)) ∧ rsB (rn5 (xS X) kd t ky) ≤ 100 ∧ rsn (rn5 (xS X) kd t ky) < 6 ∧ (rsJ (rn5 (xS X) kd t ky)).1 + rsL (rn5 (xS X) kd t ky) ≤ rsB (rn5 (xS X) kd t ky) := by
  have h1 := rnS_wf (O := 99) (kd := kd) hO.1 hO.1.1 ht hy (by decide : 5 < 1000)
  have h2 : wfY (sD (xS X), sL (xS X), 99, sR (xS X)) 0 (rn5 (xS X) kd t ky) := runS_wfY (wfC_of hO.1 hO.1.1) (kd := kd) hO.1.2.2.1 ha ht hy (by decide : 5 < 1000)
  exact ⟨h2.2.1, fun e => ⟨run_J e, h2.2.2 e⟩, h1.2.2.1, h1.2.2.2.2.2.2.2.1, h1.2.1⟩
