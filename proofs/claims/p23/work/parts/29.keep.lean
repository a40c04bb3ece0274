/-! PURE: the states that the class keeps -/
abbrev FN : Type := Nat → Int32
/-- a state as the class holds it: its addresses, its arrays, DEPTH, LENIENT, how many triggers, how many lines of the journal -/
abbrev XS : Type := (Nat → Nat) × FN × FN × FN × FN × FN × Int32 × Int32 × Int32 × Int32
def cXS (G : GG) (x : XS) : va_W := [(x.1 0, .inr (5, [.ref (x.1 1), .ref (x.1 5), .ref (x.1 8), .int x.2.2.2.2.2.2.1, .int x.2.2.2.2.2.2.2.1])), (x.1 1, .inr (6, [.ref (x.1 2), .ref (x.1 3), .ref (x.1 4)])), (x.1 2, aI G 4 x.2.1), (x.1 3, aI G 48 x.2.2.1), (x.1 4, aI G 48 x.2.2.2.1), (x.1 5, .inr (7, [.ref (x.1 6)])), (x.1 6, .inr (4, [.int (nI 12), .int (nI 8), .ref (x.1 7), .int x.2.2.2.2.2.2.2.2.1])), (x.1 7, aI G 96 x.2.2.2.2.1), (x.1 8, .inr (4, [.int (nI 100), .int (nI 6), .ref (x.1 9), .int x.2.2.2.2.2.2.2.2.2])), (x.1 9, aI G 600 x.2.2.2.2.2.1)]
def rXS (x : XS) (σ : SG) : Prop := rT x.2.1 x.2.2.1 x.2.2.2.1 (sT σ) ∧ rR x.2.2.2.2.1 (sR σ) ∧ rJ x.2.2.2.2.2.1 (sJ σ) ∧ x.2.2.2.2.2.2.1 = nI (sD σ) ∧ x.2.2.2.2.2.2.2.1 = nI (sL σ) ∧ x.2.2.2.2.2.2.2.2.1 = nI (sR σ).1 ∧ x.2.2.2.2.2.2.2.2.2 = nI (sJ σ).1
/-- the states that are kept at some places -/
def hXS (G : GG) (e : Nat → Option XS) : List Nat → va_W
  | [] => []
  | i :: l => (match e i with | none => [] | some x => cXS G x) ++ hXS G e l
def adr (e : Nat → Option XS) (i : Nat) : Option Nat := (e i).map (fun x => x.1 0)
def upo (e : Nat → Option XS) (i : Nat) (v : Option XS) : Nat → Option XS := fun j => if j = i then v else e j
theorem upo_e {e : Nat → Option XS} {i : Nat} {v : Option XS} : upo e i v i = v := if_pos rfl
theorem upo_n {e : Nat → Option XS} {i j : Nat} {v : Option XS} (h : ¬ j = i) : upo e i v j = e j := if_neg h
theorem hXS_same {G : GG} {e : Nat → Option XS} {i : Nat} {v : Option XS} : ∀ (l : List Nat), ¬ i ∈ l → hXS G (upo e i v) l = hXS G e l
  | [], _ => rfl
  | j :: l, h => by
    have h1 : ¬ j = i := fun q => h (q ▸ List.mem_cons_self)
    show (match upo e i v j with | none => [] | some x => cXS G x) ++ hXS G (upo e i v) l = _
    rw [upo_n h1, hXS_same l (fun q => h (List.mem_cons_of_mem _ q))]
    rfl
theorem hXS_pull {G : GG} {e : Nat → Option XS} {i : Nat} {x : XS} (h : e i = some x) : ∀ (l : List Nat), l.Nodup → i ∈ l → (hXS G e l).Perm (cXS G x ++ hXS G (upo e i none) l)
  | [], _, hm => absurd hm List.not_mem_nil
  | j :: l, hn, hm => by
    obtain ⟨hn1, hn2⟩ := List.nodup_cons.mp hn
    by_cases ej : j = i
    · subst ej
      show ((match e j with | none => [] | some x => cXS G x) ++ hXS G e l).Perm (cXS G x ++ ((match upo e j none j with | none => [] | some x => cXS G x) ++ hXS G (upo e j none) l))
      rw [h, upo_e, hXS_same l hn1]
      exact List.Perm.refl _
    · have hm2 : i ∈ l := by
        rcases List.mem_cons.mp hm with q | q
        · exact absurd q.symm ej
        · exact q
      show ((match e j with | none => [] | some x => cXS G x) ++ hXS G e l).Perm (cXS G x ++ ((match upo e i none j with | none => [] | some x => cXS G x) ++ hXS G (upo e i none) l))
      rw [upo_n ej]
      refine (List.Perm.append_left _ (hXS_pull h l hn2 hm2)).trans ?_
      rw [← List.append_assoc, ← List.append_assoc]
      exact List.perm_append_comm.append_right _
theorem hXS_put {G : GG} {e : Nat → Option XS} {i : Nat} (x : XS) (l : List Nat) (hn : l.Nodup) (hm : i ∈ l) : (cXS G x ++ hXS G (upo e i none) l).Perm (hXS G (upo e i (some x)) l) := by
  have h := hXS_pull (G := G) (e := upo e i (some x)) (i := i) (x := x) upo_e l hn hm
  have e2 : upo (upo e i (some x)) i none = upo e i none := by
    funext j
    unfold upo
    by_cases q : j = i
    · rw [if_pos q, if_pos q]
    · rw [if_neg q, if_neg q, if_neg q]
  rw [e2] at h
  exact h.symm
theorem upo_no {e : Nat → Option XS} {i : Nat} (h : e i = none) : upo e i none = e := by
  funext j
  unfold upo
  by_cases q : j = i
  · rw [if_pos q, q, h]
  · rw [if_neg q]
theorem adr_put {e : Nat → Option XS} {i : Nat} (x : XS) : adr (upo e i (some x)) = va_up (adr e) i (some (x.1 0)) := by
  funext j
  unfold adr upo va_up
  by_cases q : j = i
  · rw [if_pos q, if_pos q]; rfl
  · rw [if_neg q, if_neg q]
theorem adr_same {e : Nat → Option XS} {i : Nat} {x y : XS} (h : e i = some x) (h2 : y.1 0 = x.1 0) : adr (upo e i (some y)) = adr e := by
  funext j
  unfold adr upo
  by_cases q : j = i
  · rw [if_pos q, q, h]
    show some (y.1 0) = some (x.1 0)
    rw [h2]
  · rw [if_neg q]
abbrev L6 : List Nat := [0, 1, 2, 3, 4, 5]
abbrev L2 : List Nat := [0, 1]
theorem L6_n : L6.Nodup := by decide
theorem L2_n : L2.Nodup := by decide
theorem L6_m {i : Nat} (h : i < 6) : i ∈ L6 := by
  rcases (show i = 0 ∨ i = 1 ∨ i = 2 ∨ i = 3 ∨ i = 4 ∨ i = 5 by omega) with rfl | rfl | rfl | rfl | rfl | rfl <;> decide
theorem L2_m {i : Nat} (h : i < 2) : i ∈ L2 := by
  rcases (show i = 0 ∨ i = 1 by omega) with rfl | rfl <;> decide
/-- the ring of the history, whose oldest state stands at o; the slots -/
def rH (e : Nat → Option XS) (o : Nat) (h : HS) : Prop := o < 6 ∧ ∀ i, i < h.1 → ∃ x, e ((o + i) % 6) = some x ∧ rXS x (h.2 i)
def rSl (e : Nat → Option XS) (s : SL) : Prop := ∀ i, i < 2 → (s i = none → e i = none) ∧ ∀ σ, s i = some σ → ∃ x, e i = some x ∧ rXS x σ
def oKp (o : Nat) (h : HS) : Nat := if h.1 = 6 then (o + 1) % 6 else o
theorem rH_keep {e : Nat → Option XS} {o : Nat} {h : HS} {σ : SG} {x : XS} (hr : rH e o h) (hx : rXS x σ) (hz : h.1 ≤ 6) : rH (upo e ((o + h.1) % 6) (some x)) (oKp o h) (kpH h σ) := by
  obtain ⟨ho, hr⟩ := hr
  unfold oKp kpH
  by_cases q : h.1 = 6
  · rw [if_pos q, if_pos q]
    refine ⟨Nat.mod_lt _ (by decide), fun i hi => ?_⟩
    have hi2 : i < 6 := hi
    show ∃ y, upo e ((o + h.1) % 6) (some x) (((o + 1) % 6 + i) % 6) = some y ∧ rXS y (if i = 5 then σ else h.2 (i + 1))
    by_cases q2 : i = 5
    · rw [if_pos q2, show ((o + 1) % 6 + i) % 6 = (o + h.1) % 6 by omega, upo_e]
      exact ⟨x, rfl, hx⟩
    · rw [if_neg q2, upo_n (by omega), show ((o + 1) % 6 + i) % 6 = (o + (i + 1)) % 6 by omega]
      exact hr (i + 1) (by omega)
  · rw [if_neg q, if_neg q]
    refine ⟨ho, fun i hi => ?_⟩
    have hi2 : i < h.1 + 1 := hi
    show ∃ y, upo e ((o + h.1) % 6) (some x) ((o + i) % 6) = some y ∧ rXS y (if i = h.1 then σ else h.2 i)
    by_cases q2 : i = h.1
    · rw [if_pos q2, q2, upo_e]
      exact ⟨x, rfl, hx⟩
    · rw [if_neg q2, upo_n (by omega)]
      exact hr i (by omega)
theorem rH_less {e : Nat → Option XS} {o z : Nat} {h : HS} (hr : rH e o h) (hz : z ≤ h.1) : rH e o (z, h.2) := ⟨hr.1, fun i hi => hr.2 i (Nat.lt_of_lt_of_le hi hz)⟩
/-- a state that is kept is written anew -/
theorem rH_same {e : Nat → Option XS} {o : Nat} {h : HS} {i : Nat} {x : XS} (hr : rH e o h) (he : e i = some x) : rH (upo e i (some x)) o h := by
  have e2 : upo e i (some x) = e := by
    funext j
    unfold upo
    by_cases q : j = i
    · rw [if_pos q, q, he]
    · rw [if_neg q]
  rw [e2]
  exact hr
theorem kp_z {h : HS} {σ : SG} (hz : h.1 ≤ 6) : (kpH h σ).1 = if h.1 = 6 then 6 else h.1 + 1 := by
  unfold kpH
  split <;> rfl
theorem rSl_put {e : Nat → Option XS} {s : SL} {i : Nat} {x : XS} {σ : SG} (hr : rSl e s) (hx : rXS x σ) : rSl (upo e i (some x)) (fun j => if j = i then some σ else s j) := by
  intro j hj
  show ((if j = i then some σ else s j) = none → _) ∧ ∀ σ', (if j = i then some σ else s j) = some σ' → _
  by_cases q : j = i
  · rw [if_pos q, q, upo_e]
    exact ⟨fun h => (by cases h), fun σ2 h => (by cases h; exact ⟨x, rfl, hx⟩)⟩
  · rw [if_neg q, upo_n q]
    exact hr j hj
theorem rSl_no {s : SL} (h : ∀ i, s i = none) : rSl (fun _ => none) s := fun i _ => ⟨fun _ => rfl, fun σ e => by rw [h i] at e; cases e⟩
theorem upo_same {e : Nat → Option XS} {i : Nat} {x : XS} (h : e i = some x) : upo e i (some x) = e := by
  funext j
  unfold upo
  by_cases q : j = i
  · rw [if_pos q, q, h]
  · rw [if_neg q]
theorem adr_z {e : Nat → Option XS} {i : Nat} (h : e i = none) : va_rf (adr e i) = .null := by unfold adr; rw [h]; rfl
theorem adr_r {e : Nat → Option XS} {i : Nat} {x : XS} (h : e i = some x) : va_rf (adr e i) = .ref (x.1 0) := by unfold adr; rw [h]; rfl
