/-! PURE: keys ascend; what a course adds up to -/
theorem ipos_hi {K : Nat → Nat} {key : Nat} : ∀ n q, ipos K key n ≤ q → q < n → key < K q
  | 0, _, _, h => absurd h (Nat.not_lt_zero _)
  | n + 1, q, h1, h2 => by
    unfold ipos at h1
    split at h1
    · rename_i h3
      by_cases e : q = n
      · subst e; exact h3
      · exact ipos_hi n q h1 (by omega)
    · omega
theorem ipos_lo {K : Nat → Nat} {key : Nat} : ∀ n, ipos K key n = 0 ∨ ¬ key < K (ipos K key n - 1)
  | 0 => Or.inl rfl
  | n + 1 => by
    unfold ipos
    split
    · exact ipos_lo n
    · rename_i h
      exact Or.inr (by rw [Nat.add_sub_cancel]; exact h)
theorem fpl_none {K : Nat → Nat} {key : Nat} : ∀ n, fpl K key n = n → ∀ i, i < n → ¬ K i = key
  | 0, _, _, h => absurd h (Nat.not_lt_zero _)
  | n + 1, h, i, hi => by
    have h0 := fpl_le K key n
    by_cases h1 : fpl K key n < n
    · have h2 : fpl K key (n + 1) = fpl K key n := by
        show (if fpl K key n < n then _ else _) = _
        rw [if_pos h1]
      omega
    · have h2 : ¬ K n = key := by
        intro e
        have h3 : fpl K key (n + 1) = n := by
          show (if fpl K key n < n then _ else _) = _
          rw [if_neg h1, if_pos e]
        omega
      by_cases e : i = n
      · subst e; exact h2
      · exact fpl_none n (by omega) i (by omega)
def asT (τ : TB) : Prop := ∀ t, t < 4 → ∀ i j, i < j → j < zT τ t → kT τ t i < kT τ t j
theorem asT_no : asT noT := fun _ _ _ _ _ h => absurd h (Nat.not_lt_zero _)
theorem asT_lay {τ : TB} {t key num : Nat} (ha : asT τ) (h : plT τ t key = zT τ t) : asT (layT τ t key num) := by
  intro u hu i j hij hj
  by_cases e : u = t
  · subst e
    have hj2 : j < zT τ u + 1 := by
      have : (if u = u then zT τ u + 1 else zT τ u) = zT τ u + 1 := if_pos rfl
      exact this ▸ hj
    have h0 := ha u hu
    have h1 := fun q => ipos_hi (K := kT τ u) (key := key) (zT τ u) q
    have h2 := ipos_lo (K := kT τ u) (key := key) (zT τ u)
    have h3 := fpl_none (zT τ u) h
    have hp := ipos_le (kT τ u) key (zT τ u)
    have hk : ∀ q, kT (layT τ u key num) u q = if q < ipos (kT τ u) key (zT τ u) then kT τ u q else if q = ipos (kT τ u) key (zT τ u) then key else kT τ u (q - 1) := fun q => if_pos rfl
    rw [hk, hk]
    revert h1 h2 hp
    generalize ipos (kT τ u) key (zT τ u) = p
    intro h1 h2 hp
    by_cases a : j < p
    · rw [if_pos (by omega : i < p), if_pos a]
      exact h0 i j hij (by omega)
    · by_cases b : j = p
      · rw [if_pos (by omega : i < p), if_neg a, if_pos b]
        have h4 : ¬ key < kT τ u (p - 1) := h2.resolve_left (by omega)
        have h5 := h3 (p - 1) (by omega)
        by_cases c : i = p - 1
        · rw [c]; omega
        · have h6 := h0 i (p - 1) (by omega) (by omega)
          omega
      · rw [if_neg a, if_neg b]
        by_cases c : i < p
        · rw [if_pos c]
          exact h0 i (j - 1) (by omega) (by omega)
        · rw [if_neg c]
          by_cases d : i = p
          · rw [if_pos d]
            exact h1 (j - 1) (by omega) (by omega)
          · rw [if_neg d]
            exact h0 (i - 1) (j - 1) (by omega) (by omega)
  · simp only [layT, zT, kT, if_neg e] at hj ⊢
    exact ha u hu i j hij hj
theorem asT_drp {τ : TB} {t p : Nat} (ha : asT τ) : asT (drpT τ t p) := by
  intro u hu i j hij hj
  by_cases e : u = t
  · subst e
    have hj2 : j < zT τ u - 1 := by
      have : (if u = u then zT τ u - 1 else zT τ u) = zT τ u - 1 := if_pos rfl
      exact this ▸ hj
    have h0 := ha u hu
    have hk : ∀ q, kT (drpT τ u p) u q = if q < p then kT τ u q else kT τ u (q + 1) := fun q => if_pos rfl
    rw [hk, hk]
    by_cases a : j < p
    · rw [if_pos (by omega : i < p), if_pos a]
      exact h0 i j hij (by omega)
    · rw [if_neg a]
      by_cases c : i < p
      · rw [if_pos c]
        exact h0 i (j + 1) (by omega) (by omega)
      · rw [if_neg c]
        exact h0 (i + 1) (j + 1) (by omega) (by omega)
  · simp only [drpT, zT, kT, if_neg e] at hj ⊢
    exact ha u hu i j hij hj
theorem asT_app {τ : TB} {kd t key num w : Nat} (ha : asT τ) (h : wgt τ kd t key num = some w) : asT (appT τ kd t key w) := by
  unfold appT
  split
  · rename_i h0
    unfold wgt at h
    rw [if_pos h0] at h
    split at h
    · rename_i h1; exact asT_lay ha h1.1
    · cases h
  · split
    · exact ha
    · exact asT_drp ha
/-- in every course: keys ascend, no depth is greater than DEPTH; where nothing failed: begun ones are done, left out, or open (k) -/
def wfY (g : CF) (k : Nat) (r : RS) : Prop := asT (rsT r) ∧ rsP r ≤ cD g ∧ (rsn r = 0 → (rsJ r).1 + rsL r + k = rsB r)
section WFY
variable {g : CF}
theorem wfY_fail {k k2 : Nat} {r : RS} {why t ky : Nat} {ch : List Nat} (h : wfY g k r) (h1 : 0 < why) : wfY g k2 (failS r why t ky ch) := ⟨h.1, h.2.1, fun (e : why = 0) => absurd e (by omega)⟩
theorem wfY_any {k k2 : Nat} {r : RS} (h : wfY g k r) (h1 : ¬ rsn r = 0) : wfY g k2 r := ⟨h.1, h.2.1, fun e => absurd e h1⟩
theorem wfY_beg {k : Nat} {r : RS} {d : Nat} (h : wfY g k r) (hd : d ≤ cD g) : wfY g (k + 1) (begS r d) := by
  obtain ⟨a1, a2, a3⟩ := h
  refine ⟨a1, ?_, fun e => ?_⟩
  · show max (rsP r) d ≤ cD g
    omega
  · have h9 := a3 e
    show (rsJ r).1 + rsL r + (k + 1) = rsB r + 1
    omega
theorem wfY_lft {k : Nat} {r : RS} (h : wfY g (k + 1) r) : wfY g k (lftS r) := by
  obtain ⟨a1, a2, a3⟩ := h
  refine ⟨a1, a2, fun e => ?_⟩
  have h9 := a3 e
  show (rsJ r).1 + (rsL r + 1) + k = rsB r
  omega
theorem wfY_done {k kd t ky w : Nat} {r : RS} {ch : List Nat} (h : wfY g (k + 1) r) (ha : asT (appT (rsT r) kd t ky w)) : wfY g k (doneS r kd t ky w ch) := by
  obtain ⟨a1, a2, a3⟩ := h
  refine ⟨ha, a2, fun e => ?_⟩
  have h9 := a3 e
  show (rsJ r).1 + 1 + rsL r + k = rsB r
  omega
theorem wfY_que {k kd t w ky : Nat} {ch : List Nat} : ∀ (m i : Nat) (r : RS), wfY g k r → wfY g k (que g kd t w ky ch m i r)
  | 0, _, _, h => h
  | m + 1, i, r, h => by
    unfold que
    refine wfY_que m (i + 1) _ ?_
    split
    · exact ⟨h.1, h.2.1, h.2.2⟩
    · exact h
theorem deed_wfY {run : Nat → Nat → Nat → Nat → List Nat → RS → RS} {t ky : Nat} {ch : List Nat} {k i : Nat} {r : RS} (hg : wfC g) (hr : ∀ kd t ky nm ch, t < 4 → wfY g k (run kd t ky nm ch r)) (hX : wfY g k r) (hi : i < (cR g).1) : wfY g k (deedS g run t ky ch i r) := by
  unfold deedS
  split
  · exact wfY_fail hX (by decide)
  · exact hr _ _ _ _ _ (hg.2.2.2 i hi).2.2.2.2.2.1
theorem car_wfY (hg : wfC g) : ∀ (f mo kd t ky nm : Nat) (ch : List Nat) (r : RS) (k : Nat), wfY g k r → rsn r = 0 → t < 4 → wfY g k (car g f mo kd t ky nm ch r)
  | 0, _, _, _, _, _, _, _, _, h, _, _ => h
  | f + 1, mo, kd, t, ky, nm, ch, r, k, h, hr, ht => by
    unfold car
    split
    · exact wfY_fail h (by decide)
    · rename_i h1
      split
      · exact wfY_fail h (by decide)
      · have hB := wfY_beg (d := ch.length) h (by omega)
        split
        · exact wfY_fail hB (by decide)
        · split
          · split
            · exact wfY_lft hB
            · exact wfY_fail hB (by decide)
          · rename_i w hw
            have dk : ∀ (k j : Nat) (r : RS), j < (cR g).1 → wfY g k r → rsn r = 0 → wfY g k (deedS g (car g f (mo ||| 2 ^ t)) t ky ch j r) := fun k j r hj hX hr => deed_wfY hg (fun kd2 t2 ky2 nm2 ch2 b => car_wfY hg f _ kd2 t2 ky2 nm2 ch2 r k hX hr b) hX hj
            have s1 : wfY g (k + 1) (stg g 0 kd t w (deedS g (car g f (mo ||| 2 ^ t)) t ky ch) (cR g).1 0 (begS r ch.length)) := stg_ind (wfY g (k + 1)) _ _ _ (fun j r a b p z _ => dk _ j r (by omega) p z) hB hr
            dsimp only
            split
            · rename_i h3
              have hw2 : wgt (rsT (stg g 0 kd t w (deedS g (car g f (mo ||| 2 ^ t)) t ky ch) (cR g).1 0 (begS r ch.length))) kd t ky nm = some w := by
                rw [wgt_same (stg_wgt (r := begS r ch.length) hr _ _)]
                exact hw
              have s2 := wfY_done (ch := ch) s1 (asT_app s1.1 hw2)
              have s3 := stg_ind (g := g) (st := 1) (kd := kd) (t := t) (w := w) (wfY g k) (cR g).1 0 _ (fun j r a b p z _ => dk k j r (by omega) p z) s2 h3
              split
              · exact wfY_que _ _ _ s3
              · exact s3
            · rename_i h3
              exact wfY_any s1 h3
theorem wtS_wfY (hg : wfC g) : ∀ (m k : Nat) (r : RS), wfX g 0 0 r → wfY g 0 r → wfY g 0 (wtS g m k r)
  | 0, _, _, _, h => h
  | m + 1, k, r, h, h2 => by
    unfold wtS
    split
    · rename_i hk
      have hw := h.2.2.2.2.2.1 k hk.2
      exact wtS_wfY hg m (k + 1) _ (deed_wf1 hg h hk.1 hw.1 hw.2.1 hw.2.2.1 hw.2.2.2.1 hw.2.2.2.2) (deed_wfY hg (fun kd t ky nm ch b => car_wfY hg 10 0 kd t ky nm ch r 0 h2 hk.1 b) h2 hw.1)
    · exact h2
theorem runS_wfY (hg : wfC g) {kd t ky nm : Nat} {τ : TB} (h : wfT τ) (ha : asT τ) (ht : t < 4) (hk : ky < 100) (hn : nm < 1000) : wfY g 0 (runS g kd t ky nm τ) :=
  wtS_wfY hg _ _ _ (car_wf hg 10 0 kd t ky nm [] _ 0 0 (wfX_r0 h) rfl ht hk hn (Nat.zero_le _) (fun x hx => absurd hx List.not_mem_nil)) (car_wfY hg 10 0 kd t ky nm [] _ 0 ⟨ha, Nat.zero_le _, fun _ => rfl⟩ rfl ht)
/-- what is done stays done; a statement from outside that goes through is done -/
theorem deed_leJ {run : Nat → Nat → Nat → Nat → List Nat → RS → RS} {t ky i : Nat} {ch : List Nat} {r : RS} (h : ∀ kd t ky nm ch, (rsJ r).1 ≤ (rsJ (run kd t ky nm ch r)).1) : (rsJ r).1 ≤ (rsJ (deedS g run t ky ch i r)).1 := by
  unfold deedS
  split
  · exact Nat.le_refl _
  · exact h _ _ _ _ _
theorem que_J {kd t w ky : Nat} {ch : List Nat} : ∀ (m i : Nat) (r : RS), rsJ (que g kd t w ky ch m i r) = rsJ r
  | 0, _, _ => rfl
  | m + 1, i, r => by
    unfold que
    rw [que_J m (i + 1) _]
    split <;> rfl
theorem car_twoJ {f mo kd t ky nm : Nat} {ch : List Nat} {r : RS} (hr : rsn r = 0) (hf : ∀ mo kd t ky nm ch r, rsn r = 0 → (rsJ r).1 ≤ (rsJ (car g f mo kd t ky nm ch r)).1) : (rsJ r).1 ≤ (rsJ (car g (f + 1) mo kd t ky nm ch r)).1 ∧ (ch = [] → rsn (car g (f + 1) mo kd t ky nm ch r) = 0 → (rsJ r).1 + 1 ≤ (rsJ (car g (f + 1) mo kd t ky nm ch r)).1) := by
  unfold car
  split
  · exact ⟨Nat.le_refl _, fun _ (e : 1 = 0) => absurd e (by decide)⟩
  · split
    · exact ⟨Nat.le_refl _, fun _ (e : 2 = 0) => absurd e (by decide)⟩
    · split
      · exact ⟨Nat.le_refl _, fun _ (e : 3 = 0) => absurd e (by decide)⟩
      · split
        · split
          · rename_i h5
            exact ⟨Nat.le_refl _, fun e => absurd e h5.1⟩
          · exact ⟨Nat.le_refl _, fun _ (e : 4 = 0) => absurd e (by decide)⟩
        · rename_i w hw
          have dk : ∀ (j : Nat) (z : RS), rsn z = 0 → (rsJ z).1 ≤ (rsJ (deedS g (car g f (mo ||| 2 ^ t)) t ky ch j z)).1 := fun j z hz => deed_leJ (fun _ _ _ _ _ => hf _ _ _ _ _ _ z hz)
          have s1 : (rsJ r).1 ≤ (rsJ (stg g 0 kd t w (deedS g (car g f (mo ||| 2 ^ t)) t ky ch) (cR g).1 0 (begS r ch.length))).1 := stg_ind (fun z => (rsJ r).1 ≤ (rsJ z).1) _ _ _ (fun j z a b p y _ => Nat.le_trans p (dk j z y)) (Nat.le_refl _) hr
          dsimp only
          split
          · rename_i h3
            have s2 : (rsJ r).1 + 1 ≤ (rsJ (doneS (stg g 0 kd t w (deedS g (car g f (mo ||| 2 ^ t)) t ky ch) (cR g).1 0 (begS r ch.length)) kd t ky w ch)).1 := Nat.succ_le_succ s1
            have s3 := stg_ind (g := g) (st := 1) (kd := kd) (t := t) (w := w) (fun z => (rsJ r).1 + 1 ≤ (rsJ z).1) (cR g).1 0 _ (fun j z a b p y _ => Nat.le_trans p (dk j z y)) s2 h3
            split
            · rw [que_J]; exact ⟨Nat.le_of_succ_le s3, fun _ _ => s3⟩
            · exact ⟨Nat.le_of_succ_le s3, fun _ _ => s3⟩
          · rename_i h3
            exact ⟨s1, fun _ e => absurd e h3⟩
theorem car_leJ : ∀ (f mo kd t ky nm : Nat) (ch : List Nat) (r : RS), rsn r = 0 → (rsJ r).1 ≤ (rsJ (car g f mo kd t ky nm ch r)).1
  | 0, _, _, _, _, _, _, _, _ => Nat.le_refl _
  | f + 1, _, _, _, _, _, _, _, hr => (car_twoJ (f := f) hr (car_leJ f)).1
theorem wt_J : ∀ (m k : Nat) (r : RS), (rsJ r).1 ≤ (rsJ (wtS g m k r)).1
  | 0, _, _ => Nat.le_refl _
  | m + 1, k, r => by
    unfold wtS
    split
    · rename_i hk
      exact Nat.le_trans (deed_leJ (fun _ _ _ _ _ => car_leJ 10 0 _ _ _ _ _ r hk.1)) (wt_J m (k + 1) _)
    · exact Nat.le_refl _
theorem run_J {kd t ky nm : Nat} {τ : TB} (h : rsn (runS g kd t ky nm τ) = 0) : 0 < (rsJ (runS g kd t ky nm τ)).1 := by
  have h1 : rsn (car g 10 0 kd t ky nm [] (r0S τ)) = 0 := by
    apply Classical.byContradiction
    intro q
    have h2 : runS g kd t ky nm τ = car g 10 0 kd t ky nm [] (r0S τ) := wt_end (fun z => q z.1) _
    rw [h2] at h
    exact q h
  have h3 : 0 + 1 ≤ (rsJ (car g 10 0 kd t ky nm [] (r0S τ))).1 := (car_twoJ (f := 9) (r := r0S τ) rfl (car_leJ 9)).2 rfl h1
  exact Nat.le_trans h3 (wt_J 1201 0 _)
end WFY
