/-! THE REFERENCE'S OBJECT: 43 fields; its arrays stand at the address function's places -/
def mFs (a : Nat → Nat) (v : Nat → Int32) : List Value := [.int (v 0), .ref (a 1), .ref (a 2), .ref (a 3), .int (v 4), .ref (a 5), .ref (a 6), .ref (a 7), .int (v 8), .int (v 9), .int (v 10), .int (v 11), .int (v 12), .int (v 13), .int (v 14), .int (v 15), .int (v 16), .ref (a 17), .int (v 18), .int (v 19), .int (v 20), .ref (a 21), .ref (a 22), .ref (a 23), .ref (a 24), .ref (a 25), .ref (a 26), .ref (a 27), .ref (a 28), .ref (a 29), .int (v 30), .ref (a 31), .ref (a 32), .ref (a 33), .ref (a 34), .ref (a 35), .ref (a 36), .ref (a 37), .ref (a 38), .int (v 39), .int (v 40), .ref (a 41), .int (v 42)]
abbrev mO (a : Nat → Nat) (v : Nat → Int32) : va_E := .inr (9, mFs a v)
section MG
variable (a : Nat → Nat) (v : Nat → Int32)
theorem mg_0 : (mFs a v)[0]? = some (.int (v 0)) := rfl
theorem mg_1 : (mFs a v)[1]? = some (.ref (a 1)) := rfl
theorem mg_2 : (mFs a v)[2]? = some (.ref (a 2)) := rfl
theorem mg_3 : (mFs a v)[3]? = some (.ref (a 3)) := rfl
theorem mg_4 : (mFs a v)[4]? = some (.int (v 4)) := rfl
theorem mg_5 : (mFs a v)[5]? = some (.ref (a 5)) := rfl
theorem mg_6 : (mFs a v)[6]? = some (.ref (a 6)) := rfl
theorem mg_7 : (mFs a v)[7]? = some (.ref (a 7)) := rfl
theorem mg_8 : (mFs a v)[8]? = some (.int (v 8)) := rfl
theorem mg_9 : (mFs a v)[9]? = some (.int (v 9)) := rfl
theorem mg_10 : (mFs a v)[10]? = some (.int (v 10)) := rfl
theorem mg_11 : (mFs a v)[11]? = some (.int (v 11)) := rfl
theorem mg_12 : (mFs a v)[12]? = some (.int (v 12)) := rfl
theorem mg_13 : (mFs a v)[13]? = some (.int (v 13)) := rfl
theorem mg_14 : (mFs a v)[14]? = some (.int (v 14)) := rfl
theorem mg_15 : (mFs a v)[15]? = some (.int (v 15)) := rfl
theorem mg_16 : (mFs a v)[16]? = some (.int (v 16)) := rfl
theorem mg_17 : (mFs a v)[17]? = some (.ref (a 17)) := rfl
theorem mg_18 : (mFs a v)[18]? = some (.int (v 18)) := rfl
theorem mg_19 : (mFs a v)[19]? = some (.int (v 19)) := rfl
theorem mg_20 : (mFs a v)[20]? = some (.int (v 20)) := rfl
theorem mg_21 : (mFs a v)[21]? = some (.ref (a 21)) := rfl
theorem mg_22 : (mFs a v)[22]? = some (.ref (a 22)) := rfl
theorem mg_23 : (mFs a v)[23]? = some (.ref (a 23)) := rfl
theorem mg_24 : (mFs a v)[24]? = some (.ref (a 24)) := rfl
theorem mg_25 : (mFs a v)[25]? = some (.ref (a 25)) := rfl
theorem mg_26 : (mFs a v)[26]? = some (.ref (a 26)) := rfl
theorem mg_27 : (mFs a v)[27]? = some (.ref (a 27)) := rfl
theorem mg_28 : (mFs a v)[28]? = some (.ref (a 28)) := rfl
theorem mg_29 : (mFs a v)[29]? = some (.ref (a 29)) := rfl
theorem mg_30 : (mFs a v)[30]? = some (.int (v 30)) := rfl
theorem mg_31 : (mFs a v)[31]? = some (.ref (a 31)) := rfl
theorem mg_32 : (mFs a v)[32]? = some (.ref (a 32)) := rfl
theorem mg_33 : (mFs a v)[33]? = some (.ref (a 33)) := rfl
theorem mg_34 : (mFs a v)[34]? = some (.ref (a 34)) := rfl
theorem mg_35 : (mFs a v)[35]? = some (.ref (a 35)) := rfl
theorem mg_36 : (mFs a v)[36]? = some (.ref (a 36)) := rfl
theorem mg_37 : (mFs a v)[37]? = some (.ref (a 37)) := rfl
theorem mg_38 : (mFs a v)[38]? = some (.ref (a 38)) := rfl
theorem mg_39 : (mFs a v)[39]? = some (.int (v 39)) := rfl
theorem mg_40 : (mFs a v)[40]? = some (.int (v 40)) := rfl
theorem mg_41 : (mFs a v)[41]? = some (.ref (a 41)) := rfl
theorem mg_42 : (mFs a v)[42]? = some (.int (v 42)) := rfl
theorem ms_0 (x : Int32) : (mFs a v).set 0 (.int x) = mFs a (upd v 0 x) := rfl
theorem ms_4 (x : Int32) : (mFs a v).set 4 (.int x) = mFs a (upd v 4 x) := rfl
theorem ms_8 (x : Int32) : (mFs a v).set 8 (.int x) = mFs a (upd v 8 x) := rfl
theorem ms_9 (x : Int32) : (mFs a v).set 9 (.int x) = mFs a (upd v 9 x) := rfl
theorem ms_10 (x : Int32) : (mFs a v).set 10 (.int x) = mFs a (upd v 10 x) := rfl
theorem ms_11 (x : Int32) : (mFs a v).set 11 (.int x) = mFs a (upd v 11 x) := rfl
theorem ms_12 (x : Int32) : (mFs a v).set 12 (.int x) = mFs a (upd v 12 x) := rfl
theorem ms_13 (x : Int32) : (mFs a v).set 13 (.int x) = mFs a (upd v 13 x) := rfl
theorem ms_14 (x : Int32) : (mFs a v).set 14 (.int x) = mFs a (upd v 14 x) := rfl
theorem ms_15 (x : Int32) : (mFs a v).set 15 (.int x) = mFs a (upd v 15 x) := rfl
theorem ms_16 (x : Int32) : (mFs a v).set 16 (.int x) = mFs a (upd v 16 x) := rfl
theorem ms_18 (x : Int32) : (mFs a v).set 18 (.int x) = mFs a (upd v 18 x) := rfl
theorem ms_19 (x : Int32) : (mFs a v).set 19 (.int x) = mFs a (upd v 19 x) := rfl
theorem ms_20 (x : Int32) : (mFs a v).set 20 (.int x) = mFs a (upd v 20 x) := rfl
theorem ms_30 (x : Int32) : (mFs a v).set 30 (.int x) = mFs a (upd v 30 x) := rfl
theorem ms_39 (x : Int32) : (mFs a v).set 39 (.int x) = mFs a (upd v 39 x) := rfl
theorem ms_40 (x : Int32) : (mFs a v).set 40 (.int x) = mFs a (upd v 40 x) := rfl
theorem ms_42 (x : Int32) : (mFs a v).set 42 (.int x) = mFs a (upd v 42 x) := rfl
end MG
theorem w_getM {κ : KX} {cc : ByteArray} {own : String} {nL : Nat} {Rm : Room} {c n pc nx : Nat} {ws : va_W} {lo : List (Nat × Value)} {rest : List Value} (C : CT κ cc own nL Rm) {ix : Nat} {a : Nat → Nat} {v : Nat → Int32} {nm ds : String} {fin : Bool} (x : Value) (q0 k : Nat) (hd : decode cc pc = .ok (.getfield ix, 3)) (hn : pc + 3 = nx) (hw : Cond.fieldLink own ix RX9 nm ds ∈ TBL) (he : ws[q0]? = some (a 0, mO a v)) (hk : k < 43) (hT : TX9 k = (RX9, nm, ds, fin)) (hv : (mFs a v)[k]? = some x) (kk : WW κ c n ws nx lo (x :: rest)) : WW κ c n ws pc lo (.ref (a 0) :: rest) := w_get C fc9 x q0 k hd hn hw he hk hT hv kk
theorem w_putM {κ : KX} {cc : ByteArray} {own : String} {nL : Nat} {Rm : Room} {c n pc nx : Nat} {ws ws2 : va_W} {lo : List (Nat × Value)} {rest : List Value} (C : CT κ cc own nL Rm) {ix : Nat} {a : Nat → Nat} {v : Nat → Int32} {nm ds : String} {x : Int32} (q0 k : Nat) (hd : decode cc pc = .ok (.putfield ix, 3)) (hn : pc + 3 = nx) (hw : Cond.fieldLink own ix RX9 nm ds ∈ TBL) (he : ws[q0]? = some (a 0, mO a v)) (hk : k < 43) (hT : TX9 k = (RX9, nm, ds, false)) (hty : narrow (tyX9 k) (.int x) = .int x) (hf : fits (tyX9 k) (.int x) = true) (hs : (mFs a v).set k (.int x) = mFs a (upd v k x)) (hws : ws.set q0 (a 0, mO a (upd v k x)) = ws2) (kk : WW κ c n ws2 nx lo rest) : WW κ c n ws pc lo (.int x :: .ref (a 0) :: rest) := w_put C fc9 q0 k hd hn hw he hk hT hty hf (by show k < 43; exact hk) (by rw [hs]; exact hws) kk
/-! what its array s holds -/
def rMT (f : Nat → Int32) (τ : TB) : Prop := ∀ t, t < 4 → f (2 + 25 * t) = nI (zT τ t) ∧ ∀ j, j < zT τ t → f (2 + 25 * t + 1 + 2 * j) = nI (kT τ t j) ∧ f (2 + 25 * t + 1 + 2 * j + 1) = nI (nT τ t j)
def rMR (f : Nat → Int32) (ρ : TR) : Prop := f 102 = nI ρ.1 ∧ (∀ i, i < ρ.1 → ∀ c, c < 8 → f (103 + 8 * i + c) = nI (ρ.2 i c)) ∧ ∀ i, ρ.1 ≤ i → i < 12 → ∀ c, c < 8 → f (103 + 8 * i + c) = 0
def rMJ (f : Nat → Int32) (j : JR) : Prop := f 199 = nI j.1 ∧ ∀ i, i < j.1 → ∀ c, c < 6 → f (200 + 6 * i + c) = j.2 i c
def rMS (f : Nat → Int32) (σ : SG) : Prop := f 0 = nI (sD σ) ∧ f 1 = nI (sL σ) ∧ rMT f (sT σ) ∧ rMR f (sR σ) ∧ rMJ f (sJ σ)
/-- the same but for the tables -/
def sMO (f g : Nat → Int32) : Prop := ∀ i, (i < 2 ∨ 102 ≤ i) → g i = f i
theorem sMO.rfl' {f : Nat → Int32} : sMO f f := fun _ _ => rfl
theorem sMO.trans {f g h : Nat → Int32} (h1 : sMO f g) (h2 : sMO g h) : sMO f h := fun i hi => (h2 i hi).trans (h1 i hi)
theorem rMT_z {f : Nat → Int32} {τ : TB} {t : Nat} (h : rMT f τ) (ht : t < 4) : f (2 + 25 * t) = nI (zT τ t) := (h t ht).1
theorem rMT_k {f : Nat → Int32} {τ : TB} {t j : Nat} (h : rMT f τ) (ht : t < 4) (hj : j < zT τ t) : f (2 + 25 * t + 1 + 2 * j) = nI (kT τ t j) := ((h t ht).2 j hj).1
theorem rMT_n {f : Nat → Int32} {τ : TB} {t j : Nat} (h : rMT f τ) (ht : t < 4) (hj : j < zT τ t) : f (2 + 25 * t + 1 + 2 * j + 1) = nI (nT τ t j) := ((h t ht).2 j hj).2
theorem rMT_eq {f g : Nat → Int32} {τ : TB} (h : rMT f τ) (hw : wfT τ) (e : ∀ i, 2 ≤ i → i < 102 → g i = f i) : rMT g τ := by
  intro t ht
  have h0 := h t ht
  have h1 := (hw t ht).1
  refine ⟨(e _ (by omega) (by omega)).trans h0.1, fun j hj => ⟨(e _ (by omega) (by omega)).trans (h0.2 j hj).1, (e _ (by omega) (by omega)).trans (h0.2 j hj).2⟩⟩
theorem rMR_eq {f g : Nat → Int32} {ρ : TR} (h : rMR f ρ) (hw : ρ.1 ≤ 12) (e : ∀ i, 102 ≤ i → i < 199 → g i = f i) : rMR g ρ := ⟨(e _ (by omega) (by omega)).trans h.1, fun i hi c hc => (e _ (by omega) (by omega)).trans (h.2.1 i hi c hc), fun i hi hi2 c hc => (e _ (by omega) (by omega)).trans (h.2.2 i hi hi2 c hc)⟩
theorem rMJ_eq {f g : Nat → Int32} {j : JR} (h : rMJ f j) (hj : j.1 ≤ 100) (e : ∀ i, 199 ≤ i → i < 800 → g i = f i) : rMJ g j := ⟨(e _ (by omega) (by omega)).trans h.1, fun i hi c hc => (e _ (by omega) (by omega)).trans (h.2 i hi c hc)⟩
theorem rMS_eq {f g : Nat → Int32} {σ : SG} (h : rMS f σ) (hw : wfS σ) (e : ∀ i, i < 800 → g i = f i) : rMS g σ := ⟨(e _ (by omega)).trans h.1, (e _ (by omega)).trans h.2.1, rMT_eq h.2.2.1 hw.2.2.1 (fun i _ b => e i (by omega)), rMR_eq h.2.2.2.1 hw.2.2.2.1.1 (fun i _ b => e i (by omega)), rMJ_eq h.2.2.2.2 hw.2.2.2.2 (fun i _ b => e i b)⟩
theorem rMT_lay {f f2 : Nat → Int32} {τ : TB} {t key num p : Nat} (hT : rMT f τ) (hw : wfT τ) (ht : t < 4) (hz : zT τ t < 12) (hp : p = ipos (kT τ t) key (zT τ t))
    (h1 : ∀ i, (i < 2 + 25 * t + 1 + 2 * p ∨ 2 + 25 * t + 1 + 24 ≤ i) → f2 i = f i) (h2 : ∀ j, p < j → j ≤ zT τ t → f2 (2 + 25 * t + 1 + 2 * j) = f (2 + 25 * t + 1 + 2 * (j - 1)) ∧ f2 (2 + 25 * t + 1 + 2 * j + 1) = f (2 + 25 * t + 1 + 2 * (j - 1) + 1)) :
    rMT (upd (upd (upd f2 (2 + 25 * t + 1 + 2 * p) (nI key)) (2 + 25 * t + 1 + 2 * p + 1) (nI num)) (2 + 25 * t) (nI (zT τ t + 1))) (layT τ t key num) := by
  have hp2 := ipos_le (kT τ t) key (zT τ t)
  rw [← hp] at hp2
  intro u hu
  by_cases e : u = t
  · subst e
    have h0 := hT u hu
    refine ⟨?_, fun j hj => ?_⟩
    · rw [upd_e rfl]
      show _ = nI (if u = u then zT τ u + 1 else _)
      rw [if_pos rfl]
    · have hj2 : j < zT τ u + 1 := by
        have : (if u = u then zT τ u + 1 else zT τ u) = zT τ u + 1 := if_pos rfl
        exact this ▸ hj
      simp only [layT, kT, nT, if_true, ← hp]
      by_cases h3 : j < p
      · rw [if_pos h3, if_pos h3, upd_n (by omega), upd_n (by omega), upd_n (by omega), upd_n (by omega), upd_n (by omega), upd_n (by omega), h1 _ (by omega), h1 _ (by omega)]
        exact h0.2 j (by omega)
      · rw [if_neg h3, if_neg h3]
        by_cases h4 : j = p
        · rw [if_pos h4, if_pos h4, upd_n (by omega), upd_n (by omega), upd_e (by omega), upd_n (by omega), upd_e (by omega)]
          exact ⟨rfl, rfl⟩
        · rw [if_neg h4, if_neg h4, upd_n (by omega), upd_n (by omega), upd_n (by omega), upd_n (by omega), upd_n (by omega), upd_n (by omega), (h2 j (by omega) (by omega)).1, (h2 j (by omega) (by omega)).2]
          exact h0.2 (j - 1) (by omega)
  · have h0 := hT u hu
    have h3 := (hw u hu).1
    simp only [layT, zT, kT, nT, if_neg e]
    rw [upd_n (by omega), upd_n (by omega), upd_n (by omega), h1 _ (by omega)]
    refine ⟨h0.1, fun j hj => ?_⟩
    have hj2 : j < zT τ u := hj
    rw [upd_n (by omega), upd_n (by omega), upd_n (by omega), upd_n (by omega), upd_n (by omega), upd_n (by omega), h1 _ (by omega), h1 _ (by omega)]
    exact h0.2 j hj
theorem rMT_set {f : Nat → Int32} {τ : TB} {t p num : Nat} (hT : rMT f τ) (hw : wfT τ) (ht : t < 4) (hp : p < zT τ t) : rMT (upd f (2 + 25 * t + 1 + 2 * p + 1) (nI num)) (setT τ t p num) := by
  intro u hu
  have h0 := hT u hu
  have h1 := hw u hu
  have h2 := hw t ht
  refine ⟨(upd_n (by omega)).trans h0.1, fun j hj => ?_⟩
  have hj2 : j < zT τ u := hj
  refine ⟨(upd_n (by omega)).trans (h0.2 j hj2).1, ?_⟩
  show _ = nI (if u = t ∧ j = p then num else nT τ u j)
  by_cases e : u = t ∧ j = p
  · rw [if_pos e, upd_e (by omega)]
  · rw [if_neg e, upd_n (by omega)]
    exact (h0.2 j hj2).2
theorem rMT_drp {f f2 : Nat → Int32} {τ : TB} {t p : Nat} (hT : rMT f τ) (hw : wfT τ) (ht : t < 4) (hp : p < zT τ t)
    (h1 : ∀ i, (i < 2 + 25 * t + 1 + 2 * p ∨ 2 + 25 * t + 1 + 24 ≤ i) → f2 i = f i) (h2 : ∀ j, p ≤ j → j < zT τ t - 1 → f2 (2 + 25 * t + 1 + 2 * j) = f (2 + 25 * t + 1 + 2 * (j + 1)) ∧ f2 (2 + 25 * t + 1 + 2 * j + 1) = f (2 + 25 * t + 1 + 2 * (j + 1) + 1)) :
    rMT (upd (upd (upd f2 (2 + 25 * t + 1 + 2 * (zT τ t - 1)) (nI 0)) (2 + 25 * t + 1 + 2 * (zT τ t - 1) + 1) (nI 0)) (2 + 25 * t) (nI (zT τ t - 1))) (drpT τ t p) := by
  have hz := (hw t ht).1
  intro u hu
  by_cases e : u = t
  · subst e
    have h0 := hT u hu
    refine ⟨?_, fun j hj => ?_⟩
    · rw [upd_e rfl]
      show _ = nI (if u = u then zT τ u - 1 else _)
      rw [if_pos rfl]
    · have hj2 : j < zT τ u - 1 := by
        have : (if u = u then zT τ u - 1 else zT τ u) = zT τ u - 1 := if_pos rfl
        exact this ▸ hj
      simp only [drpT, kT, nT, if_true]
      by_cases h3 : j < p
      · rw [if_pos h3, if_pos h3, upd_n (by omega), upd_n (by omega), upd_n (by omega), upd_n (by omega), upd_n (by omega), upd_n (by omega), h1 _ (by omega), h1 _ (by omega)]
        exact h0.2 j (by omega)
      · rw [if_neg h3, if_neg h3, upd_n (by omega), upd_n (by omega), upd_n (by omega), upd_n (by omega), upd_n (by omega), upd_n (by omega), (h2 j (by omega) hj2).1, (h2 j (by omega) hj2).2]
        exact h0.2 (j + 1) (by omega)
  · have h0 := hT u hu
    have h3 : τ.1 u ≤ 12 := (hw u hu).1
    have hz' : τ.1 t ≤ 12 := hz
    have hp' : p < τ.1 t := hp
    simp only [drpT, zT, kT, nT, if_neg e]
    rw [upd_n (by omega), upd_n (by omega), upd_n (by omega), h1 _ (by omega)]
    refine ⟨h0.1, fun j hj => ?_⟩
    have hj2 : j < τ.1 u := hj
    rw [upd_n (by omega), upd_n (by omega), upd_n (by omega), upd_n (by omega), upd_n (by omega), upd_n (by omega), h1 _ (by omega), h1 _ (by omega)]
    exact h0.2 j hj
theorem in_wi {x z : Int32} {L : Nat} (hL : L < 2 ^ 31) (hz : z.toInt = (L : Int) - 1) : (nI 0 ≤ x ∧ x ≤ z) ↔ wi x L := by
  rw [Int32.le_iff_toInt_le, Int32.le_iff_toInt_le, hz, nI_toInt (by decide)]
  constructor
  · intro h
    exact (in_iff hL).mp ⟨by have := h.1; omega, by have := h.2; omega⟩
  · intro h
    have h2 := (in_iff hL).mpr h
    exact ⟨by have := h2.1; omega, by have := h2.2; omega⟩
set_option maxHeartbeats 4000000 in
set_option maxRecDepth 100000 in
theorem c_X9_in (l : Launch) (G : GG) (x : Int32) (y : Int32) (z : Int32)  : MT l G yX9_in cX9_in 3 (some .boolean) 1 0 0 [.int x, .int y, .int z] [] (fun v9 ws9 => (v9 = some (.int (bC (y ≤ x ∧ x ≤ z)))) ∧ ws9 = []) := by
  refine MT.of RX9 [(0, .int x), (1, .int y), (2, .int z)] (by decide +kernel) rfl rfl (Nat.le_of_ble_eq_true rfl) (fun κ C E hl9 hG9 hnm9 => ?_)
  subst hl9; subst hG9
  refine w_iload_n (nx := 1) C 0 dX9_in_0 rfl rfl rfl ?_
  refine w_iload_n (nx := 2) C 1 dX9_in_1 rfl rfl rfl ?_
  refine w_icmp_lt (tg := 14) (nx := 5) C dX9_in_2 rfl rfl (fun h_1 => ?_) (fun h_1 => ?_)
  · refine w_iconst (nx := 15) C (nI 0) dX9_in_14 rfl (by decide) ?_
    exact w_iret (ty := .boolean) C E dX9_in_15 rfl rfl (Nat.le_refl _) (Nat.le_refl _) ⟨(congrArg (fun z => some (Value.int z)) (bC_0 (fun z9 => by first | exact absurd h_1 (Int32.not_lt.mpr z9.1) | exact absurd h_2 (Int32.not_lt.mpr z9.2)))), rfl⟩
  · refine w_iload_n (nx := 6) C 0 dX9_in_5 rfl rfl rfl ?_
    refine w_iload_n (nx := 7) C 2 dX9_in_6 rfl rfl rfl ?_
    refine w_icmp_gt (tg := 14) (nx := 10) C dX9_in_7 rfl rfl (fun h_2 => ?_) (fun h_2 => ?_)
    · refine w_iconst (nx := 15) C (nI 0) dX9_in_14 rfl (by decide) ?_
      exact w_iret (ty := .boolean) C E dX9_in_15 rfl rfl (Nat.le_refl _) (Nat.le_refl _) ⟨(congrArg (fun z => some (Value.int z)) (bC_0 (fun z9 => by first | exact absurd h_1 (Int32.not_lt.mpr z9.1) | exact absurd h_2 (Int32.not_lt.mpr z9.2)))), rfl⟩
    · refine w_iconst (nx := 11) C (nI 1) dX9_in_10 rfl (by decide) ?_
      refine w_goto (nx := 15) C dX9_in_11 rfl ?_
      exact w_iret (ty := .boolean) C E dX9_in_15 rfl rfl (Nat.le_refl _) (Nat.le_refl _) ⟨(congrArg (fun z => some (Value.int z)) (bC_1 ⟨Int32.not_lt.mp h_1, Int32.not_lt.mp h_2⟩)), rfl⟩
theorem c_X9_in_w (l : Launch) (G : GG) (x : Int32) (L : Nat) (z : Int32) (hL : L < 2 ^ 31) (hz : z.toInt = (L : Int) - 1) : MT l G yX9_in cX9_in 3 (some .boolean) 1 0 0 [.int x, .int (nI 0), .int z] [] (fun v9 ws9 => v9 = some (.int (bC (wi x L))) ∧ ws9 = []) := (c_X9_in l G x (nI 0) z).imp (fun v w h => ⟨h.1.trans (by rw [bC_iff (in_wi hL hz)]), h.2⟩)
set_option maxHeartbeats 4000000 in
set_option maxRecDepth 100000 in
theorem c_X9_isTable (l : Launch) (G : GG) (x : Int32)  : MT l G yX9_isTable cX9_isTable 1 (some .boolean) 2 0 0 [.int x] [] (fun v9 ws9 => v9 = some (.int (bC (wi x 4))) ∧ ws9 = []) := by
  refine MT.of RX9 [(0, .int x)] (by decide +kernel) rfl rfl (Nat.le_of_ble_eq_true rfl) (fun κ C E hl9 hG9 hnm9 => ?_)
  subst hl9; subst hG9
  refine w_iload_n (nx := 1) C 0 dX9_isTable_0 rfl rfl rfl ?_
  refine w_iconst (nx := 2) C (nI 0) dX9_isTable_1 rfl (by decide) ?_
  refine w_iconst (nx := 3) C (nI 3) dX9_isTable_2 rfl (by decide) ?_
  refine w_callS (nx := 6) (wr := []) (rest := []) C ms_X9_in (c_X9_in_w _ _ x 4 (nI 3) (by decide) (by decide)) dX9_isTable_3 rfl wl_X9_93 rfl (List.Perm.refl _) rfl rfl (Nat.le_of_ble_eq_true rfl) (Nat.le_of_ble_eq_true rfl) (Nat.le_of_ble_eq_true rfl) (Nat.zero_le _) (Nat.zero_le _) (fun v9 w9 R_1 => ?_)
  obtain ⟨rfl, rfl⟩ := R_1
  show WW κ 0 0 [] 6 [(0, .int x)] [.int (bC (wi x 4))]
  exact w_iret (ty := .boolean) C E dX9_isTable_6 rfl (bC_nar0 _) (Nat.le_refl _) (Nat.le_refl _) ⟨rfl, rfl⟩
set_option maxHeartbeats 4000000 in
set_option maxRecDepth 100000 in
theorem c_X9_isTrigger (l : Launch) (G : GG) (a : Nat → Nat) (v : Nat → Int32) (f1 : Nat → Int32) (x : Int32) (m : Nat) (hm : f1 102 = nI m) (hm2 : m ≤ 12) : MT l G yX9_isTrigger cX9_isTrigger 2 (some .boolean) 2 0 0 [.ref (a 0), .int x] [(a 0, mO a v), (a 1, aI G 800 f1)] (fun v9 ws9 => v9 = some (.int (bC (wi x m))) ∧ ws9 = [(a 0, mO a v), (a 1, aI G 800 f1)]) := by
  refine MT.of RX9 [(0, .ref (a 0)), (1, .int x)] (by decide +kernel) rfl rfl (Nat.le_of_ble_eq_true rfl) (fun κ C E hl9 hG9 hnm9 => ?_)
  subst hl9; subst hG9
  refine w_iload_n (nx := 1) C 1 dX9_isTrigger_0 rfl rfl rfl ?_
  refine w_iconst (nx := 2) C (nI 0) dX9_isTrigger_1 rfl (by decide) ?_
  refine w_aload_n (nx := 3) C 0 dX9_isTrigger_2 rfl rfl rfl ?_
  refine w_getM (nx := 6) C (.ref (a 1)) 0 1 dX9_isTrigger_3 rfl wl_X9_7 rfl (by decide) rfl (mg_1 _ _) ?_
  refine w_bipush (nx := 8) C (nI 102) dX9_isTrigger_6 rfl (by decide) ?_
  refine w_iald (nx := 9) C (nI m) 1 102 dX9_isTrigger_8 rfl rfl (by decide) rfl (by omega) hm ?_
  refine w_iconst (nx := 10) C (nI 1) dX9_isTrigger_9 rfl (by decide) ?_
  refine w_isub (nx := 11) C (nI m - nI 1) dX9_isTrigger_10 rfl rfl ?_
  refine w_callS (nx := 14) (wr := [(a 0, mO a v), (a 1, aI (kG κ) 800 f1)]) (rest := []) C ms_X9_in (c_X9_in_w _ _ x m (nI m - nI 1) (by omega) (pk_sub_toInt (by omega) (by decide))) dX9_isTrigger_11 rfl wl_X9_93 rfl (pm_sel [0, 1] 2 (by decide +kernel) rfl rfl) rfl rfl (Nat.le_of_ble_eq_true rfl) (Nat.le_of_ble_eq_true rfl) (Nat.le_of_ble_eq_true rfl) (Nat.zero_le _) (Nat.zero_le _) (fun v9 w9 R_1 => ?_)
  obtain ⟨rfl, rfl⟩ := R_1
  show WW κ 0 0 [(a 0, mO a v), (a 1, aI (kG κ) 800 f1)] 14 [(0, .ref (a 0)), (1, .int x)] [.int (bC (wi x m))]
  exact w_iret (ty := .boolean) C E dX9_isTrigger_14 rfl (bC_nar0 _) (Nat.le_refl _) (Nat.le_refl _) ⟨rfl, rfl⟩
set_option maxHeartbeats 4000000 in
set_option maxRecDepth 100000 in
theorem c_X9_of (l : Launch) (G : GG) (a : Nat → Nat) (v : Nat → Int32) (f1 : Nat → Int32) (i : Nat) (c : Nat) (x : Int32) (hi : i < 12) (hc : c < 8) (hx : f1 (103 + 8 * i + c) = x) : MT l G yX9_of cX9_of 3 (some .int) 1 0 0 [.ref (a 0), .int (nI i), .int (nI c)] [(a 0, mO a v), (a 1, aI G 800 f1)] (fun v9 ws9 => v9 = some (.int x) ∧ ws9 = [(a 0, mO a v), (a 1, aI G 800 f1)]) := by
  refine MT.of RX9 [(0, .ref (a 0)), (1, .int (nI i)), (2, .int (nI c))] (by decide +kernel) rfl rfl (Nat.le_of_ble_eq_true rfl) (fun κ C E hl9 hG9 hnm9 => ?_)
  subst hl9; subst hG9
  refine w_aload_n (nx := 1) C 0 dX9_of_0 rfl rfl rfl ?_
  refine w_getM (nx := 4) C (.ref (a 1)) 0 1 dX9_of_1 rfl wl_X9_7 rfl (by decide) rfl (mg_1 _ _) ?_
  refine w_bipush (nx := 6) C (nI 103) dX9_of_4 rfl (by decide) ?_
  refine w_bipush (nx := 8) C (nI 8) dX9_of_6 rfl (by decide) ?_
  refine w_iload_n (nx := 9) C 1 dX9_of_8 rfl rfl rfl ?_
  refine w_imul (nx := 10) C (nI (8 * i)) dX9_of_9 rfl (pk_mul _ _) ?_
  refine w_iadd (nx := 11) C (nI (103 + 8 * i)) dX9_of_10 rfl (nI_add _ _) ?_
  refine w_iload_n (nx := 12) C 2 dX9_of_11 rfl rfl rfl ?_
  refine w_iadd (nx := 13) C (nI (103 + 8 * i + c)) dX9_of_12 rfl (nI_add _ _) ?_
  refine w_iald (nx := 14) C x 1 (103 + 8 * i + c) dX9_of_13 rfl rfl (by decide) rfl (by omega) hx ?_
  exact w_iret (ty := .int) C E dX9_of_14 rfl rfl (Nat.le_refl _) (Nat.le_refl _) ⟨rfl, rfl⟩
set_option maxHeartbeats 4000000 in
set_option maxRecDepth 100000 in
theorem c_X9_rowAt (l : Launch) (G : GG) (t : Nat) (j : Nat)  : MT l G yX9_rowAt cX9_rowAt 2 (some .int) 1 0 0 [.int (nI t), .int (nI j)] [] (fun v9 ws9 => v9 = some (.int (nI (2 + 25 * t + 1 + 2 * j))) ∧ ws9 = []) := by
  refine MT.of RX9 [(0, .int (nI t)), (1, .int (nI j))] (by decide +kernel) rfl rfl (Nat.le_of_ble_eq_true rfl) (fun κ C E hl9 hG9 hnm9 => ?_)
  subst hl9; subst hG9
  refine w_iconst (nx := 1) C (nI 2) dX9_rowAt_0 rfl (by decide) ?_
  refine w_bipush (nx := 3) C (nI 25) dX9_rowAt_1 rfl (by decide) ?_
  refine w_iload_n (nx := 4) C 0 dX9_rowAt_3 rfl rfl rfl ?_
  refine w_imul (nx := 5) C (nI (25 * t)) dX9_rowAt_4 rfl (pk_mul _ _) ?_
  refine w_iadd (nx := 6) C (nI (2 + 25 * t)) dX9_rowAt_5 rfl (nI_add _ _) ?_
  refine w_iconst (nx := 7) C (nI 1) dX9_rowAt_6 rfl (by decide) ?_
  refine w_iadd (nx := 8) C (nI (2 + 25 * t + 1)) dX9_rowAt_7 rfl (nI_add _ _) ?_
  refine w_iconst (nx := 9) C (nI 2) dX9_rowAt_8 rfl (by decide) ?_
  refine w_iload_n (nx := 10) C 1 dX9_rowAt_9 rfl rfl rfl ?_
  refine w_imul (nx := 11) C (nI (2 * j)) dX9_rowAt_10 rfl (pk_mul _ _) ?_
  refine w_iadd (nx := 12) C (nI (2 + 25 * t + 1 + 2 * j)) dX9_rowAt_11 rfl (nI_add _ _) ?_
  exact w_iret (ty := .int) C E dX9_rowAt_12 rfl rfl (Nat.le_refl _) (Nat.le_refl _) ⟨rfl, rfl⟩
set_option maxHeartbeats 4000000 in
set_option maxRecDepth 100000 in
theorem c_X9_rows (l : Launch) (G : GG) (a : Nat → Nat) (v : Nat → Int32) (f1 : Nat → Int32) (τ : TB) (t : Nat) (hT : rMT f1 τ) (hw : wfT τ) (ht : t < 4) : MT l G yX9_rows cX9_rows 2 (some .int) 1 0 0 [.ref (a 0), .int (nI t)] [(a 0, mO a v), (a 1, aI G 800 f1)] (fun v9 ws9 => v9 = some (.int (nI (zT τ t))) ∧ ws9 = [(a 0, mO a v), (a 1, aI G 800 f1)]) := by
  refine MT.of RX9 [(0, .ref (a 0)), (1, .int (nI t))] (by decide +kernel) rfl rfl (Nat.le_of_ble_eq_true rfl) (fun κ C E hl9 hG9 hnm9 => ?_)
  subst hl9; subst hG9
  refine w_aload_n (nx := 1) C 0 dX9_rows_0 rfl rfl rfl ?_
  refine w_getM (nx := 4) C (.ref (a 1)) 0 1 dX9_rows_1 rfl wl_X9_7 rfl (by decide) rfl (mg_1 _ _) ?_
  refine w_iconst (nx := 5) C (nI 2) dX9_rows_4 rfl (by decide) ?_
  refine w_bipush (nx := 7) C (nI 25) dX9_rows_5 rfl (by decide) ?_
  refine w_iload_n (nx := 8) C 1 dX9_rows_7 rfl rfl rfl ?_
  refine w_imul (nx := 9) C (nI (25 * t)) dX9_rows_8 rfl (pk_mul _ _) ?_
  refine w_iadd (nx := 10) C (nI (2 + 25 * t)) dX9_rows_9 rfl (nI_add _ _) ?_
  refine w_iald (nx := 11) C (nI (zT τ t)) 1 (2 + 25 * t) dX9_rows_10 rfl rfl (by decide) rfl (by omega) (rMT_z hT ht) ?_
  exact w_iret (ty := .int) C E dX9_rows_11 rfl rfl (Nat.le_refl _) (Nat.le_refl _) ⟨rfl, rfl⟩
set_option maxHeartbeats 4000000 in
set_option maxRecDepth 100000 in
theorem c_X9_placeOf (l : Launch) (G : GG) (a : Nat → Nat) (v : Nat → Int32) (f1 : Nat → Int32) (τ : TB) (t : Nat) (ky : Nat) (hT : rMT f1 τ) (hw : wfT τ) (ht : t < 4) (hk : ky < 100) : MT l G yX9_placeOf cX9_placeOf 4 (some .int) 2 0 0 [.ref (a 0), .int (nI t), .int (nI ky)] [(a 0, mO a v), (a 1, aI G 800 f1)] (fun v9 ws9 => (v9 = some (.int (nI (plT τ t ky))) ∧ ws9 = [(a 0, mO a v), (a 1, aI G 800 f1)] ∧ plT τ t ky < zT τ t) ∨ (v9 = some (.int (-6)) ∧ ws9 = [(a 0, mO a v), (a 1, aI G 800 f1)] ∧ plT τ t ky = zT τ t)) := by
  refine MT.of RX9 [(0, .ref (a 0)), (1, .int (nI t)), (2, .int (nI ky))] (by decide +kernel) rfl rfl (Nat.le_of_ble_eq_true rfl) (fun κ C E hl9 hG9 hnm9 => ?_)
  subst hl9; subst hG9
  have hz := (hw t ht).1
  refine w_iconst (nx := 1) C (nI 0) dX9_placeOf_0 rfl (by decide) ?_
  refine w_istore_n (nx := 2) (lo2 := [(3, .int (nI 0)), (0, .ref (a 0)), (1, .int (nI t)), (2, .int (nI ky))]) C dX9_placeOf_1 rfl rfl (by decide) rfl ?_
  have LP_1 : ∀ (N9_2 : Nat) (j : Nat), (j ≤ zT τ t) → (∀ i, i < j → ¬ kT τ t i = ky) → (zT τ t - j) < N9_2 → WW κ 0 0 [(a 0, mO a v), (a 1, aI (kG κ) 800 f1)] 2 [(0, .ref (a 0)), (1, .int (nI t)), (2, .int (nI ky)), (3, .int (nI j))] [] := by
    intro N9_2
    induction N9_2 with
    | zero => intro j hj hn hm9_2; exact absurd hm9_2 (Nat.not_lt_zero _)
    | succ N9_2 ih9_2 =>
      intro j hj hn hm9_2
      refine w_iload_n (nx := 3) C 3 dX9_placeOf_2 rfl rfl rfl ?_
      refine w_aload_n (nx := 4) C 0 dX9_placeOf_3 rfl rfl rfl ?_
      refine w_iload_n (nx := 5) C 1 dX9_placeOf_4 rfl rfl rfl ?_
      refine w_callV (nx := 8) (wr := []) (rest := [.int (nI j)]) C mi_X9_rows (c_X9_rows _ _ a v f1 τ t (by first | assumption | omega) (by first | assumption | omega) (by first | assumption | omega)) 0 dX9_placeOf_5 rfl wl_X9_100 rfl rfl rfl (pm_sel [0, 1] 2 (by decide +kernel) rfl rfl) rfl rfl (Nat.le_of_ble_eq_true rfl) (Nat.le_of_ble_eq_true rfl) (Nat.le_of_ble_eq_true rfl) (Nat.zero_le _) (Nat.zero_le _) (fun v9 w9 R_2 => ?_)
      obtain ⟨rfl, rfl⟩ := R_2
      show WW κ 0 0 [(a 0, mO a v), (a 1, aI (kG κ) 800 f1)] 8 [(0, .ref (a 0)), (1, .int (nI t)), (2, .int (nI ky)), (3, .int (nI j))] [.int (nI (zT τ t)), .int (nI j)]
      refine n_icmp_ge (tg := 33) (nx := 11) C dX9_placeOf_8 rfl rfl (by omega) (by omega) (fun h_3 => ?_) (fun h_3 => ?_)
      · refine w_bipush (nx := 35) C (-6) dX9_placeOf_33 rfl (by decide) ?_
        exact w_iret (ty := .int) C E dX9_placeOf_35 rfl rfl (Nat.le_refl _) (Nat.le_refl _) (Or.inr (⟨rfl, rfl, (fpl_no _ (fun i hi => hn i (by omega)))⟩))
      · refine w_aload_n (nx := 12) C 0 dX9_placeOf_11 rfl rfl rfl ?_
        refine w_getM (nx := 15) C (.ref (a 1)) 0 1 dX9_placeOf_12 rfl wl_X9_7 rfl (by decide) rfl (mg_1 _ _) ?_
        refine w_iload_n (nx := 16) C 1 dX9_placeOf_15 rfl rfl rfl ?_
        refine w_iload_n (nx := 17) C 3 dX9_placeOf_16 rfl rfl rfl ?_
        refine w_callS (nx := 20) (wr := [(a 0, mO a v), (a 1, aI (kG κ) 800 f1)]) (rest := [.ref (a 1)]) C ms_X9_rowAt (c_X9_rowAt _ _ t j) dX9_placeOf_17 rfl wl_X9_104 rfl (pm_sel [0, 1] 2 (by decide +kernel) rfl rfl) rfl rfl (Nat.le_of_ble_eq_true rfl) (Nat.le_of_ble_eq_true rfl) (Nat.le_of_ble_eq_true rfl) (Nat.zero_le _) (Nat.zero_le _) (fun v9 w9 R_4 => ?_)
        obtain ⟨rfl, rfl⟩ := R_4
        show WW κ 0 0 [(a 0, mO a v), (a 1, aI (kG κ) 800 f1)] 20 [(0, .ref (a 0)), (1, .int (nI t)), (2, .int (nI ky)), (3, .int (nI j))] [.int (nI (2 + 25 * t + 1 + 2 * j)), .ref (a 1)]
        refine w_iald (nx := 21) C (nI (kT τ t j)) 1 (2 + 25 * t + 1 + 2 * j) dX9_placeOf_20 rfl rfl (by decide) rfl (by omega) (rMT_k hT ht (by omega)) ?_
        have hkb := ((hw t ht).2 j (by omega)).1
        refine w_iload_n (nx := 22) C 2 dX9_placeOf_21 rfl rfl rfl ?_
        refine n_icmp_ne (tg := 27) (nx := 25) C dX9_placeOf_22 rfl rfl (by omega) (by omega) (fun h_5 => ?_) (fun h_5 => ?_)
        · refine w_iinc (nx := 30) (lo2 := [(3, .int (nI (j + 1))), (0, .ref (a 0)), (1, .int (nI t)), (2, .int (nI ky))]) C (nI (j + 1)) 3 dX9_placeOf_27 rfl rfl (nI_add _ _) (by decide) rfl ?_
          refine w_goto (nx := 2) C dX9_placeOf_30 rfl ?_
          refine ww_lo [1, 2, 3, 0] (lo' := [(0, .ref (a 0)), (1, .int (nI t)), (2, .int (nI ky)), (3, .int (nI (j + 1)))]) rfl ?_
          exact ih9_2 (j + 1) (by first | assumption | omega) (fun i hi => (Nat.lt_or_ge i j).elim (fun q => hn i q) (fun q => by have e9 : i = j := (by omega); subst e9; assumption)) (by omega)
        · refine w_iload_n (nx := 26) C 3 dX9_placeOf_25 rfl rfl rfl ?_
          exact w_iret (ty := .int) C E dX9_placeOf_26 rfl rfl (Nat.le_refl _) (Nat.le_refl _) (Or.inl ⟨(congrArg (fun z => some (Value.int z)) (congrArg nI (fpl_at (zT τ t) (by omega) (by omega) hn).symm)), rfl, (by have e9 := fpl_at (K := kT τ t) (key := ky) (zT τ t) (by omega) (by omega) hn; show fpl _ _ _ < _; rw [e9]; omega)⟩)
  refine ww_lo [1, 2, 3, 0] (lo' := [(0, .ref (a 0)), (1, .int (nI t)), (2, .int (nI ky)), (3, .int (nI 0))]) rfl ?_
  exact LP_1 _ 0 (Nat.zero_le _) (fun i hi => absurd hi (Nat.not_lt_zero _)) (Nat.lt_succ_self _)
set_option maxHeartbeats 4000000 in
set_option maxRecDepth 100000 in
theorem c_X9_numberOf (l : Launch) (G : GG) (a : Nat → Nat) (v : Nat → Int32) (f1 : Nat → Int32) (τ : TB) (t : Nat) (ky : Nat) (hT : rMT f1 τ) (hw : wfT τ) (ht : t < 4) (hk : ky < 100) : MT l G yX9_numberOf cX9_numberOf 4 (some .int) 3 0 0 [.ref (a 0), .int (nI t), .int (nI ky)] [(a 0, mO a v), (a 1, aI G 800 f1)] (fun v9 ws9 => (v9 = some (.int (nI (nT τ t (plT τ t ky)))) ∧ ws9 = [(a 0, mO a v), (a 1, aI G 800 f1)] ∧ plT τ t ky < zT τ t) ∨ (v9 = some (.int (-6)) ∧ ws9 = [(a 0, mO a v), (a 1, aI G 800 f1)] ∧ plT τ t ky = zT τ t)) := by
  refine MT.of RX9 [(0, .ref (a 0)), (1, .int (nI t)), (2, .int (nI ky))] (by decide +kernel) rfl rfl (Nat.le_of_ble_eq_true rfl) (fun κ C E hl9 hG9 hnm9 => ?_)
  subst hl9; subst hG9
  have hz := (hw t ht).1
  refine w_aload_n (nx := 1) C 0 dX9_numberOf_0 rfl rfl rfl ?_
  refine w_iload_n (nx := 2) C 1 dX9_numberOf_1 rfl rfl rfl ?_
  refine w_iload_n (nx := 3) C 2 dX9_numberOf_2 rfl rfl rfl ?_
  refine w_callV (nx := 6) (wr := []) (rest := []) C mi_X9_placeOf (c_X9_placeOf _ _ a v f1 τ t ky (by first | assumption | omega) (by first | assumption | omega) (by first | assumption | omega) (by first | assumption | omega)) 0 dX9_numberOf_3 rfl wl_X9_108 rfl rfl rfl (pm_sel [0, 1] 2 (by decide +kernel) rfl rfl) rfl rfl (Nat.le_of_ble_eq_true rfl) (Nat.le_of_ble_eq_true rfl) (Nat.le_of_ble_eq_true rfl) (Nat.zero_le _) (Nat.zero_le _) (fun v9 w9 R_1 => ?_)
  rcases R_1 with ⟨rfl, rfl, hp9⟩ | ⟨rfl, rfl, hp9⟩
  · show WW κ 0 0 [(a 0, mO a v), (a 1, aI (kG κ) 800 f1)] 6 [(0, .ref (a 0)), (1, .int (nI t)), (2, .int (nI ky))] [.int (nI (plT τ t ky))]
    refine w_istore_n (nx := 7) (lo2 := [(3, .int (nI (plT τ t ky))), (0, .ref (a 0)), (1, .int (nI t)), (2, .int (nI ky))]) C dX9_numberOf_6 rfl rfl (by decide) rfl ?_
    refine w_iload_n (nx := 8) C 0 dX9_numberOf_7 rfl rfl rfl ?_
    refine w_bipush (nx := 10) C (-6) dX9_numberOf_8 rfl (by decide) ?_
    refine w_icmp_ne (tg := 18) (nx := 13) C dX9_numberOf_10 rfl rfl (fun _ => ?_) (fun q9 => absurd q9 (nI_nneg (by omega) (by decide)))
    refine w_aload_n (nx := 19) C 1 dX9_numberOf_18 rfl rfl rfl ?_
    refine w_getM (nx := 22) C (.ref (a 1)) 0 1 dX9_numberOf_19 rfl wl_X9_7 rfl (by decide) rfl (mg_1 _ _) ?_
    refine w_iload_n (nx := 23) C 2 dX9_numberOf_22 rfl rfl rfl ?_
    refine w_iload_n (nx := 24) C 0 dX9_numberOf_23 rfl rfl rfl ?_
    refine w_callS (nx := 27) (wr := [(a 0, mO a v), (a 1, aI (kG κ) 800 f1)]) (rest := [.ref (a 1)]) C ms_X9_rowAt (c_X9_rowAt _ _ t (plT τ t ky)) dX9_numberOf_24 rfl wl_X9_104 rfl (pm_sel [0, 1] 2 (by decide +kernel) rfl rfl) rfl rfl (Nat.le_of_ble_eq_true rfl) (Nat.le_of_ble_eq_true rfl) (Nat.le_of_ble_eq_true rfl) (Nat.zero_le _) (Nat.zero_le _) (fun v9 w9 R_3 => ?_)
    obtain ⟨rfl, rfl⟩ := R_3
    show WW κ 0 0 [(a 0, mO a v), (a 1, aI (kG κ) 800 f1)] 27 [(3, .int (nI (plT τ t ky))), (0, .ref (a 0)), (1, .int (nI t)), (2, .int (nI ky))] [.int (nI (2 + 25 * t + 1 + 2 * (plT τ t ky))), .ref (a 1)]
    refine w_iconst (nx := 28) C (nI 1) dX9_numberOf_27 rfl (by decide) ?_
    refine w_iadd (nx := 29) C (nI (2 + 25 * t + 1 + 2 * (plT τ t ky) + 1)) dX9_numberOf_28 rfl (nI_add _ _) ?_
    refine w_iald (nx := 30) C (nI (nT τ t (plT τ t ky))) 1 (2 + 25 * t + 1 + 2 * (plT τ t ky) + 1) dX9_numberOf_29 rfl rfl (by decide) rfl (by omega) (rMT_n hT ht (by assumption)) ?_
    exact w_iret (ty := .int) C E dX9_numberOf_30 rfl rfl (Nat.le_refl _) (Nat.le_refl _) (Or.inl ⟨rfl, rfl, (by first | assumption | rfl | omega)⟩)
  · show WW κ 0 0 [(a 0, mO a v), (a 1, aI (kG κ) 800 f1)] 6 [(0, .ref (a 0)), (1, .int (nI t)), (2, .int (nI ky))] [.int (-6)]
    refine w_istore_n (nx := 7) (lo2 := [(3, .int (-6)), (0, .ref (a 0)), (1, .int (nI t)), (2, .int (nI ky))]) C dX9_numberOf_6 rfl rfl (by decide) rfl ?_
    refine w_iload_n (nx := 8) C 0 dX9_numberOf_7 rfl rfl rfl ?_
    refine w_bipush (nx := 10) C (-6) dX9_numberOf_8 rfl (by decide) ?_
    refine w_icmp_ne (tg := 18) (nx := 13) C dX9_numberOf_10 rfl rfl (fun q9 => absurd (by decide) q9) (fun _ => ?_)
    refine w_bipush (nx := 15) C (-6) dX9_numberOf_13 rfl (by decide) ?_
    refine w_goto (nx := 30) C dX9_numberOf_15 rfl ?_
    exact w_iret (ty := .int) C E dX9_numberOf_30 rfl rfl (Nat.le_refl _) (Nat.le_refl _) (Or.inr (⟨rfl, rfl, (by first | assumption | rfl | omega)⟩))
set_option maxHeartbeats 4000000 in
set_option maxRecDepth 100000 in
theorem c_X9_isPossible (l : Launch) (G : GG) (a : Nat → Nat) (v : Nat → Int32) (f1 : Nat → Int32) (τ : TB) (kd : Nat) (t : Nat) (ky : Nat) (nm : Nat) (hT : rMT f1 τ) (hw : wfT τ) (ht : t < 4) (hkd : kd < 3) (hk : ky < 100) (hnm : nm < 1000) : MT l G yX9_isPossible cX9_isPossible 6 (some .boolean) 4 0 0 [.ref (a 0), .int (nI kd), .int (nI t), .int (nI ky), .int (nI nm)] [(a 0, mO a v), (a 1, aI G 800 f1)] (fun v9 ws9 => v9 = some (.int (bC (¬ wgt τ kd t ky nm = none))) ∧ ws9 = [(a 0, mO a v), (a 1, aI G 800 f1)]) := by
  refine MT.of RX9 [(0, .ref (a 0)), (1, .int (nI kd)), (2, .int (nI t)), (3, .int (nI ky)), (4, .int (nI nm))] (by decide +kernel) rfl rfl (Nat.le_of_ble_eq_true rfl) (fun κ C E hl9 hG9 hnm9 => ?_)
  subst hl9; subst hG9
  have hz := (hw t ht).1
  have hzn : ∀ j, j < zT τ t → nT τ t j < 1000 := fun j hj => ((hw t ht).2 j hj).2
  refine w_aload_n (nx := 1) C 0 dX9_isPossible_0 rfl rfl rfl ?_
  refine w_iload_n (nx := 2) C 2 dX9_isPossible_1 rfl rfl rfl ?_
  refine w_iload_n (nx := 3) C 3 dX9_isPossible_2 rfl rfl rfl ?_
  refine w_callV (nx := 6) (wr := []) (rest := []) C mi_X9_numberOf (c_X9_numberOf _ _ a v f1 τ t ky (by first | assumption | omega) (by first | assumption | omega) (by first | assumption | omega) (by first | assumption | omega)) 0 dX9_isPossible_3 rfl wl_X9_111 rfl rfl rfl (pm_sel [0, 1] 2 (by decide +kernel) rfl rfl) rfl rfl (Nat.le_of_ble_eq_true rfl) (Nat.le_of_ble_eq_true rfl) (Nat.le_of_ble_eq_true rfl) (Nat.zero_le _) (Nat.zero_le _) (fun v9 w9 R_1 => ?_)
  rcases R_1 with ⟨rfl, rfl, hp9⟩ | ⟨rfl, rfl, hp9⟩
  · show WW κ 0 0 [(a 0, mO a v), (a 1, aI (kG κ) 800 f1)] 6 [(0, .ref (a 0)), (1, .int (nI kd)), (2, .int (nI t)), (3, .int (nI ky)), (4, .int (nI nm))] [.int (nI (nT τ t (plT τ t ky)))]
    have hpn := hzn _ hp9
    refine w_istore (nx := 8) (lo2 := [(5, .int (nI (nT τ t (plT τ t ky)))), (0, .ref (a 0)), (1, .int (nI kd)), (2, .int (nI t)), (3, .int (nI ky)), (4, .int (nI nm))]) C dX9_isPossible_6 rfl (by decide) rfl ?_
    refine w_iload_n (nx := 9) C 2 dX9_isPossible_8 rfl rfl rfl ?_
    refine n_if_ne (tg := 37) (nx := 12) C dX9_isPossible_9 rfl rfl (by omega) (fun h_2 => ?_) (fun h_2 => ?_)
    · refine w_iload (nx := 39) C 0 dX9_isPossible_37 rfl rfl ?_
      refine w_bipush (nx := 41) C (-6) dX9_isPossible_39 rfl (by decide) ?_
      refine w_icmp_eq (tg := 64) (nx := 44) C dX9_isPossible_41 rfl rfl (fun q9 => absurd q9 (nI_nneg (by omega) (by decide))) (fun _ => ?_)
      refine w_iload_n (nx := 45) C 2 dX9_isPossible_44 rfl rfl rfl ?_
      refine w_iconst (nx := 46) C (nI 2) dX9_isPossible_45 rfl (by decide) ?_
      refine n_icmp_eq (tg := 60) (nx := 49) C dX9_isPossible_46 rfl rfl (by omega) (by omega) (fun h_4 => ?_) (fun h_4 => ?_)
      · refine w_iconst (nx := 61) C (nI 1) dX9_isPossible_60 rfl (by decide) ?_
        refine w_goto (nx := 65) C dX9_isPossible_61 rfl ?_
        exact w_iret (ty := .boolean) C E dX9_isPossible_65 rfl rfl (Nat.le_refl _) (Nat.le_refl _) ⟨(congrArg (fun z => some (Value.int z)) (bC_1 (by unfold wgt; (repeat' split); all_goals first | (intro z9; cases z9; done) | (exfalso; omega)))), rfl⟩
      · refine w_iload (nx := 51) C 0 dX9_isPossible_49 rfl rfl ?_
        refine w_iload (nx := 53) C 5 dX9_isPossible_51 rfl rfl ?_
        refine w_iadd (nx := 54) C (nI (nT τ t (plT τ t ky) + nm)) dX9_isPossible_53 rfl (nI_add _ _) ?_
        refine w_sipush (nx := 57) C (nI 999) dX9_isPossible_54 rfl (by decide) ?_
        refine n_icmp_gt (tg := 64) (nx := 60) C dX9_isPossible_57 rfl rfl (by omega) (by omega) (fun h_5 => ?_) (fun h_5 => ?_)
        · refine w_iconst (nx := 65) C (nI 0) dX9_isPossible_64 rfl (by decide) ?_
          exact w_iret (ty := .boolean) C E dX9_isPossible_65 rfl rfl (Nat.le_refl _) (Nat.le_refl _) ⟨(congrArg (fun z => some (Value.int z)) (bC_0 (Classical.not_not.mpr (by unfold wgt; (repeat' split); all_goals first | rfl | (exfalso; omega))))), rfl⟩
        · refine w_iconst (nx := 61) C (nI 1) dX9_isPossible_60 rfl (by decide) ?_
          refine w_goto (nx := 65) C dX9_isPossible_61 rfl ?_
          exact w_iret (ty := .boolean) C E dX9_isPossible_65 rfl rfl (Nat.le_refl _) (Nat.le_refl _) ⟨(congrArg (fun z => some (Value.int z)) (bC_1 (by unfold wgt; (repeat' split); all_goals first | (intro z9; cases z9; done) | (exfalso; omega)))), rfl⟩
    · refine w_iload (nx := 14) C 0 dX9_isPossible_12 rfl rfl ?_
      refine w_bipush (nx := 16) C (-6) dX9_isPossible_14 rfl (by decide) ?_
      refine w_icmp_ne (tg := 33) (nx := 19) C dX9_isPossible_16 rfl rfl (fun _ => ?_) (fun q9 => absurd q9 (nI_nneg (by omega) (by decide)))
      refine w_iconst (nx := 34) C (nI 0) dX9_isPossible_33 rfl (by decide) ?_
      refine w_goto (nx := 65) C dX9_isPossible_34 rfl ?_
      exact w_iret (ty := .boolean) C E dX9_isPossible_65 rfl rfl (Nat.le_refl _) (Nat.le_refl _) ⟨(congrArg (fun z => some (Value.int z)) (bC_0 (Classical.not_not.mpr (by unfold wgt; (repeat' split); all_goals first | rfl | (exfalso; omega))))), rfl⟩
  · show WW κ 0 0 [(a 0, mO a v), (a 1, aI (kG κ) 800 f1)] 6 [(0, .ref (a 0)), (1, .int (nI kd)), (2, .int (nI t)), (3, .int (nI ky)), (4, .int (nI nm))] [.int (-6)]
    refine w_istore (nx := 8) (lo2 := [(5, .int (-6)), (0, .ref (a 0)), (1, .int (nI kd)), (2, .int (nI t)), (3, .int (nI ky)), (4, .int (nI nm))]) C dX9_isPossible_6 rfl (by decide) rfl ?_
    refine w_iload_n (nx := 9) C 2 dX9_isPossible_8 rfl rfl rfl ?_
    refine n_if_ne (tg := 37) (nx := 12) C dX9_isPossible_9 rfl rfl (by omega) (fun h_7 => ?_) (fun h_7 => ?_)
    · refine w_iload (nx := 39) C 0 dX9_isPossible_37 rfl rfl ?_
      refine w_bipush (nx := 41) C (-6) dX9_isPossible_39 rfl (by decide) ?_
      refine w_icmp_eq (tg := 64) (nx := 44) C dX9_isPossible_41 rfl rfl (fun _ => ?_) (fun q9 => absurd (by decide) q9)
      refine w_iconst (nx := 65) C (nI 0) dX9_isPossible_64 rfl (by decide) ?_
      exact w_iret (ty := .boolean) C E dX9_isPossible_65 rfl rfl (Nat.le_refl _) (Nat.le_refl _) ⟨(congrArg (fun z => some (Value.int z)) (bC_0 (Classical.not_not.mpr (by unfold wgt; (repeat' split); all_goals first | rfl | (exfalso; omega))))), rfl⟩
    · refine w_iload (nx := 14) C 0 dX9_isPossible_12 rfl rfl ?_
      refine w_bipush (nx := 16) C (-6) dX9_isPossible_14 rfl (by decide) ?_
      refine w_icmp_ne (tg := 33) (nx := 19) C dX9_isPossible_16 rfl rfl (fun q9 => absurd (by decide) q9) (fun _ => ?_)
      refine w_aload_n (nx := 20) C 1 dX9_isPossible_19 rfl rfl rfl ?_
      refine w_iload_n (nx := 21) C 3 dX9_isPossible_20 rfl rfl rfl ?_
      refine w_callV (nx := 24) (wr := []) (rest := []) C mi_X9_rows (c_X9_rows _ _ a v f1 τ t (by first | assumption | omega) (by first | assumption | omega) (by first | assumption | omega)) 0 dX9_isPossible_21 rfl wl_X9_100 rfl rfl rfl (pm_sel [0, 1] 2 (by decide +kernel) rfl rfl) rfl rfl (Nat.le_of_ble_eq_true rfl) (Nat.le_of_ble_eq_true rfl) (Nat.le_of_ble_eq_true rfl) (Nat.zero_le _) (Nat.zero_le _) (fun v9 w9 R_10 => ?_)
      obtain ⟨rfl, rfl⟩ := R_10
      show WW κ 0 0 [(a 0, mO a v), (a 1, aI (kG κ) 800 f1)] 24 [(5, .int (-6)), (0, .ref (a 0)), (1, .int (nI kd)), (2, .int (nI t)), (3, .int (nI ky)), (4, .int (nI nm))] [.int (nI (zT τ t))]
      refine w_bipush (nx := 26) C (nI 12) dX9_isPossible_24 rfl (by decide) ?_
      refine n_icmp_ge (tg := 33) (nx := 29) C dX9_isPossible_26 rfl rfl (by omega) (by omega) (fun h_11 => ?_) (fun h_11 => ?_)
      · refine w_iconst (nx := 34) C (nI 0) dX9_isPossible_33 rfl (by decide) ?_
        refine w_goto (nx := 65) C dX9_isPossible_34 rfl ?_
        exact w_iret (ty := .boolean) C E dX9_isPossible_65 rfl rfl (Nat.le_refl _) (Nat.le_refl _) ⟨(congrArg (fun z => some (Value.int z)) (bC_0 (Classical.not_not.mpr (by unfold wgt; (repeat' split); all_goals first | rfl | (exfalso; omega))))), rfl⟩
      · refine w_iconst (nx := 30) C (nI 1) dX9_isPossible_29 rfl (by decide) ?_
        refine w_goto (nx := 65) C dX9_isPossible_30 rfl ?_
        exact w_iret (ty := .boolean) C E dX9_isPossible_65 rfl rfl (Nat.le_refl _) (Nat.le_refl _) ⟨(congrArg (fun z => some (Value.int z)) (bC_1 (by unfold wgt; (repeat' split); all_goals first | (intro z9; cases z9; done) | (exfalso; omega)))), rfl⟩
set_option maxHeartbeats 4000000 in
set_option maxRecDepth 100000 in
theorem c_X9_lays (l : Launch) (G : GG) (a : Nat → Nat) (v : Nat → Int32) (f1 : Nat → Int32) (τ : TB) (t : Nat) (ky : Nat) (nm : Nat) (hT : rMT f1 τ) (hw : wfT τ) (ht : t < 4) (hk : ky < 100) (hz : zT τ t < 12) : MT l G yX9_lays cX9_lays 5 none 2 0 0 [.ref (a 0), .int (nI t), .int (nI ky), .int (nI nm)] [(a 0, mO a v), (a 1, aI G 800 f1)] (fun v9 ws9 => ∃ (g1 : Nat → Int32), v9 = none ∧ ws9 = [(a 0, mO a v), (a 1, aI G 800 g1)] ∧ rMT g1 (layT τ t ky nm) ∧ sMO f1 g1) := by
  refine MT.of RX9 [(0, .ref (a 0)), (1, .int (nI t)), (2, .int (nI ky)), (3, .int (nI nm))] (by decide +kernel) rfl rfl (Nat.le_of_ble_eq_true rfl) (fun κ C E hl9 hG9 hnm9 => ?_)
  subst hl9; subst hG9
  refine w_aload_n (nx := 1) C 0 dX9_lays_0 rfl rfl rfl ?_
  refine w_iload_n (nx := 2) C 1 dX9_lays_1 rfl rfl rfl ?_
  refine w_callV (nx := 5) (wr := []) (rest := []) C mi_X9_rows (c_X9_rows _ _ a v f1 τ t (by first | assumption | omega) (by first | assumption | omega) (by first | assumption | omega)) 0 dX9_lays_2 rfl wl_X9_100 rfl rfl rfl (pm_sel [0, 1] 2 (by decide +kernel) rfl rfl) rfl rfl (Nat.le_of_ble_eq_true rfl) (Nat.le_of_ble_eq_true rfl) (Nat.le_of_ble_eq_true rfl) (Nat.zero_le _) (Nat.zero_le _) (fun v9 w9 R_1 => ?_)
  obtain ⟨rfl, rfl⟩ := R_1
  show WW κ 0 0 [(a 0, mO a v), (a 1, aI (kG κ) 800 f1)] 5 [(0, .ref (a 0)), (1, .int (nI t)), (2, .int (nI ky)), (3, .int (nI nm))] [.int (nI (zT τ t))]
  refine w_istore (nx := 7) (lo2 := [(4, .int (nI (zT τ t))), (0, .ref (a 0)), (1, .int (nI t)), (2, .int (nI ky)), (3, .int (nI nm))]) C dX9_lays_5 rfl (by decide) rfl ?_
  have LP_2 : ∀ (N9_7 : Nat) (g1 : Nat → Int32) (p : Nat), (p ≤ zT τ t) → (∀ q, p ≤ q → q < zT τ t → ky < kT τ t q) → (∀ i, (i < 2 + 25 * t + 1 + 2 * p ∨ 2 + 25 * t + 1 + 24 ≤ i) → g1 i = f1 i) → (∀ j, p < j → j ≤ zT τ t → g1 (2 + 25 * t + 1 + 2 * j) = f1 (2 + 25 * t + 1 + 2 * (j - 1)) ∧ g1 (2 + 25 * t + 1 + 2 * j + 1) = f1 (2 + 25 * t + 1 + 2 * (j - 1) + 1)) → p < N9_7 → WW κ 0 0 [(a 0, mO a v), (a 1, aI (kG κ) 800 g1)] 7 [(0, .ref (a 0)), (1, .int (nI t)), (2, .int (nI ky)), (3, .int (nI nm)), (4, .int (nI p))] [] := by
    intro N9_7
    induction N9_7 with
    | zero => intro g1 p hp hgt h1 h2 hm9_7; exact absurd hm9_7 (Nat.not_lt_zero _)
    | succ N9_7 ih9_7 =>
      intro g1 p hp hgt h1 h2 hm9_7
      refine w_iload (nx := 9) C 4 dX9_lays_7 rfl rfl ?_
      refine n_if_le (tg := 87) (nx := 12) C dX9_lays_9 rfl rfl (by omega) (fun h_3 => ?_) (fun h_3 => ?_)
      · refine w_aload_n (nx := 88) C 0 dX9_lays_87 rfl rfl rfl ?_
        refine w_getM (nx := 91) C (.ref (a 1)) 0 1 dX9_lays_88 rfl wl_X9_7 rfl (by decide) rfl (mg_1 _ _) ?_
        refine w_iload_n (nx := 92) C 1 dX9_lays_91 rfl rfl rfl ?_
        refine w_iload (nx := 94) C 4 dX9_lays_92 rfl rfl ?_
        refine w_callS (nx := 97) (wr := [(a 0, mO a v), (a 1, aI (kG κ) 800 g1)]) (rest := [.ref (a 1)]) C ms_X9_rowAt (c_X9_rowAt _ _ t p) dX9_lays_94 rfl wl_X9_104 rfl (pm_sel [0, 1] 2 (by decide +kernel) rfl rfl) rfl rfl (Nat.le_of_ble_eq_true rfl) (Nat.le_of_ble_eq_true rfl) (Nat.le_of_ble_eq_true rfl) (Nat.zero_le _) (Nat.zero_le _) (fun v9 w9 R_4 => ?_)
        obtain ⟨rfl, rfl⟩ := R_4
        show WW κ 0 0 [(a 0, mO a v), (a 1, aI (kG κ) 800 g1)] 97 [(0, .ref (a 0)), (1, .int (nI t)), (2, .int (nI ky)), (3, .int (nI nm)), (4, .int (nI p))] [.int (nI (2 + 25 * t + 1 + 2 * p)), .ref (a 1)]
        refine w_iload_n (nx := 98) C 2 dX9_lays_97 rfl rfl rfl ?_
        refine w_iast (nx := 99) (ws2 := [(a 0, mO a v), (a 1, aI (kG κ) 800 (upd g1 (2 + 25 * t + 1 + 2 * p) (nI ky)))]) C 1 (2 + 25 * t + 1 + 2 * p) dX9_lays_98 rfl rfl (by decide) rfl (by omega) rfl ?_
        refine w_aload_n (nx := 100) C 0 dX9_lays_99 rfl rfl rfl ?_
        refine w_getM (nx := 103) C (.ref (a 1)) 0 1 dX9_lays_100 rfl wl_X9_7 rfl (by decide) rfl (mg_1 _ _) ?_
        refine w_iload_n (nx := 104) C 1 dX9_lays_103 rfl rfl rfl ?_
        refine w_iload (nx := 106) C 4 dX9_lays_104 rfl rfl ?_
        refine w_callS (nx := 109) (wr := [(a 0, mO a v), (a 1, aI (kG κ) 800 (upd g1 (2 + 25 * t + 1 + 2 * p) (nI ky)))]) (rest := [.ref (a 1)]) C ms_X9_rowAt (c_X9_rowAt _ _ t p) dX9_lays_106 rfl wl_X9_104 rfl (pm_sel [0, 1] 2 (by decide +kernel) rfl rfl) rfl rfl (Nat.le_of_ble_eq_true rfl) (Nat.le_of_ble_eq_true rfl) (Nat.le_of_ble_eq_true rfl) (Nat.zero_le _) (Nat.zero_le _) (fun v9 w9 R_5 => ?_)
        obtain ⟨rfl, rfl⟩ := R_5
        show WW κ 0 0 [(a 0, mO a v), (a 1, aI (kG κ) 800 (upd g1 (2 + 25 * t + 1 + 2 * p) (nI ky)))] 109 [(0, .ref (a 0)), (1, .int (nI t)), (2, .int (nI ky)), (3, .int (nI nm)), (4, .int (nI p))] [.int (nI (2 + 25 * t + 1 + 2 * p)), .ref (a 1)]
        refine w_iconst (nx := 110) C (nI 1) dX9_lays_109 rfl (by decide) ?_
        refine w_iadd (nx := 111) C (nI (2 + 25 * t + 1 + 2 * p + 1)) dX9_lays_110 rfl (nI_add _ _) ?_
        refine w_iload_n (nx := 112) C 3 dX9_lays_111 rfl rfl rfl ?_
        refine w_iast (nx := 113) (ws2 := [(a 0, mO a v), (a 1, aI (kG κ) 800 (upd (upd g1 (2 + 25 * t + 1 + 2 * p) (nI ky)) (2 + 25 * t + 1 + 2 * p + 1) (nI nm)))]) C 1 (2 + 25 * t + 1 + 2 * p + 1) dX9_lays_112 rfl rfl (by decide) rfl (by omega) rfl ?_
        refine w_aload_n (nx := 114) C 0 dX9_lays_113 rfl rfl rfl ?_
        refine w_getM (nx := 117) C (.ref (a 1)) 0 1 dX9_lays_114 rfl wl_X9_7 rfl (by decide) rfl (mg_1 _ _) ?_
        refine w_iconst (nx := 118) C (nI 2) dX9_lays_117 rfl (by decide) ?_
        refine w_bipush (nx := 120) C (nI 25) dX9_lays_118 rfl (by decide) ?_
        refine w_iload_n (nx := 121) C 1 dX9_lays_120 rfl rfl rfl ?_
        refine w_imul (nx := 122) C (nI (25 * t)) dX9_lays_121 rfl (pk_mul _ _) ?_
        refine w_iadd (nx := 123) C (nI (2 + 25 * t)) dX9_lays_122 rfl (nI_add _ _) ?_
        refine w_dup2 (nx := 124) C dX9_lays_123 rfl rfl rfl ?_
        refine w_iald (nx := 125) C (nI (zT τ t)) 1 (2 + 25 * t) dX9_lays_124 rfl rfl (by decide) rfl (by omega) ((upd_n (by omega)).trans ((upd_n (by omega)).trans ((h1 _ (by omega)).trans (rMT_z hT ht)))) ?_
        refine w_iconst (nx := 126) C (nI 1) dX9_lays_125 rfl (by decide) ?_
        refine w_iadd (nx := 127) C (nI (zT τ t + 1)) dX9_lays_126 rfl (nI_add _ _) ?_
        refine w_iast (nx := 128) (ws2 := [(a 0, mO a v), (a 1, aI (kG κ) 800 (upd (upd (upd g1 (2 + 25 * t + 1 + 2 * p) (nI ky)) (2 + 25 * t + 1 + 2 * p + 1) (nI nm)) (2 + 25 * t) (nI (zT τ t + 1))))]) C 1 (2 + 25 * t) dX9_lays_127 rfl rfl (by decide) rfl (by omega) rfl ?_
        exact w_vret C E dX9_lays_128 rfl (Nat.le_refl _) (Nat.le_refl _) ⟨_, rfl, rfl, (rMT_lay (p := p) hT hw ht hz (ipos_eq _ hp hgt (by omega)).symm h1 h2), (fun i hi => (upd_n (by omega)).trans ((upd_n (by omega)).trans ((upd_n (by omega)).trans (h1 i (by omega)))))⟩
      · refine w_aload_n (nx := 13) C 0 dX9_lays_12 rfl rfl rfl ?_
        refine w_getM (nx := 16) C (.ref (a 1)) 0 1 dX9_lays_13 rfl wl_X9_7 rfl (by decide) rfl (mg_1 _ _) ?_
        refine w_iload_n (nx := 17) C 1 dX9_lays_16 rfl rfl rfl ?_
        refine w_iload (nx := 19) C 4 dX9_lays_17 rfl rfl ?_
        refine w_iconst (nx := 20) C (nI 1) dX9_lays_19 rfl (by decide) ?_
        refine w_isub (nx := 21) C (nI (p - 1)) dX9_lays_20 rfl (pk_sub (by omega)) ?_
        refine w_callS (nx := 24) (wr := [(a 0, mO a v), (a 1, aI (kG κ) 800 g1)]) (rest := [.ref (a 1)]) C ms_X9_rowAt (c_X9_rowAt _ _ t (p - 1)) dX9_lays_21 rfl wl_X9_104 rfl (pm_sel [0, 1] 2 (by decide +kernel) rfl rfl) rfl rfl (Nat.le_of_ble_eq_true rfl) (Nat.le_of_ble_eq_true rfl) (Nat.le_of_ble_eq_true rfl) (Nat.zero_le _) (Nat.zero_le _) (fun v9 w9 R_6 => ?_)
        obtain ⟨rfl, rfl⟩ := R_6
        show WW κ 0 0 [(a 0, mO a v), (a 1, aI (kG κ) 800 g1)] 24 [(0, .ref (a 0)), (1, .int (nI t)), (2, .int (nI ky)), (3, .int (nI nm)), (4, .int (nI p))] [.int (nI (2 + 25 * t + 1 + 2 * (p - 1))), .ref (a 1)]
        refine w_iald (nx := 25) C (nI (kT τ t (p - 1))) 1 (2 + 25 * t + 1 + 2 * (p - 1)) dX9_lays_24 rfl rfl (by decide) rfl (by omega) ((h1 _ (by omega)).trans (rMT_k hT ht (by omega))) ?_
        have hkb := ((hw t ht).2 (p - 1) (by omega)).1
        refine w_iload_n (nx := 26) C 2 dX9_lays_25 rfl rfl rfl ?_
        refine n_icmp_le (tg := 87) (nx := 29) C dX9_lays_26 rfl rfl (by omega) (by omega) (fun h_7 => ?_) (fun h_7 => ?_)
        · refine w_aload_n (nx := 88) C 0 dX9_lays_87 rfl rfl rfl ?_
          refine w_getM (nx := 91) C (.ref (a 1)) 0 1 dX9_lays_88 rfl wl_X9_7 rfl (by decide) rfl (mg_1 _ _) ?_
          refine w_iload_n (nx := 92) C 1 dX9_lays_91 rfl rfl rfl ?_
          refine w_iload (nx := 94) C 4 dX9_lays_92 rfl rfl ?_
          refine w_callS (nx := 97) (wr := [(a 0, mO a v), (a 1, aI (kG κ) 800 g1)]) (rest := [.ref (a 1)]) C ms_X9_rowAt (c_X9_rowAt _ _ t p) dX9_lays_94 rfl wl_X9_104 rfl (pm_sel [0, 1] 2 (by decide +kernel) rfl rfl) rfl rfl (Nat.le_of_ble_eq_true rfl) (Nat.le_of_ble_eq_true rfl) (Nat.le_of_ble_eq_true rfl) (Nat.zero_le _) (Nat.zero_le _) (fun v9 w9 R_8 => ?_)
          obtain ⟨rfl, rfl⟩ := R_8
          show WW κ 0 0 [(a 0, mO a v), (a 1, aI (kG κ) 800 g1)] 97 [(0, .ref (a 0)), (1, .int (nI t)), (2, .int (nI ky)), (3, .int (nI nm)), (4, .int (nI p))] [.int (nI (2 + 25 * t + 1 + 2 * p)), .ref (a 1)]
          refine w_iload_n (nx := 98) C 2 dX9_lays_97 rfl rfl rfl ?_
          refine w_iast (nx := 99) (ws2 := [(a 0, mO a v), (a 1, aI (kG κ) 800 (upd g1 (2 + 25 * t + 1 + 2 * p) (nI ky)))]) C 1 (2 + 25 * t + 1 + 2 * p) dX9_lays_98 rfl rfl (by decide) rfl (by omega) rfl ?_
          refine w_aload_n (nx := 100) C 0 dX9_lays_99 rfl rfl rfl ?_
          refine w_getM (nx := 103) C (.ref (a 1)) 0 1 dX9_lays_100 rfl wl_X9_7 rfl (by decide) rfl (mg_1 _ _) ?_
          refine w_iload_n (nx := 104) C 1 dX9_lays_103 rfl rfl rfl ?_
          refine w_iload (nx := 106) C 4 dX9_lays_104 rfl rfl ?_
          refine w_callS (nx := 109) (wr := [(a 0, mO a v), (a 1, aI (kG κ) 800 (upd g1 (2 + 25 * t + 1 + 2 * p) (nI ky)))]) (rest := [.ref (a 1)]) C ms_X9_rowAt (c_X9_rowAt _ _ t p) dX9_lays_106 rfl wl_X9_104 rfl (pm_sel [0, 1] 2 (by decide +kernel) rfl rfl) rfl rfl (Nat.le_of_ble_eq_true rfl) (Nat.le_of_ble_eq_true rfl) (Nat.le_of_ble_eq_true rfl) (Nat.zero_le _) (Nat.zero_le _) (fun v9 w9 R_9 => ?_)
          obtain ⟨rfl, rfl⟩ := R_9
          show WW κ 0 0 [(a 0, mO a v), (a 1, aI (kG κ) 800 (upd g1 (2 + 25 * t + 1 + 2 * p) (nI ky)))] 109 [(0, .ref (a 0)), (1, .int (nI t)), (2, .int (nI ky)), (3, .int (nI nm)), (4, .int (nI p))] [.int (nI (2 + 25 * t + 1 + 2 * p)), .ref (a 1)]
          refine w_iconst (nx := 110) C (nI 1) dX9_lays_109 rfl (by decide) ?_
          refine w_iadd (nx := 111) C (nI (2 + 25 * t + 1 + 2 * p + 1)) dX9_lays_110 rfl (nI_add _ _) ?_
          refine w_iload_n (nx := 112) C 3 dX9_lays_111 rfl rfl rfl ?_
          refine w_iast (nx := 113) (ws2 := [(a 0, mO a v), (a 1, aI (kG κ) 800 (upd (upd g1 (2 + 25 * t + 1 + 2 * p) (nI ky)) (2 + 25 * t + 1 + 2 * p + 1) (nI nm)))]) C 1 (2 + 25 * t + 1 + 2 * p + 1) dX9_lays_112 rfl rfl (by decide) rfl (by omega) rfl ?_
          refine w_aload_n (nx := 114) C 0 dX9_lays_113 rfl rfl rfl ?_
          refine w_getM (nx := 117) C (.ref (a 1)) 0 1 dX9_lays_114 rfl wl_X9_7 rfl (by decide) rfl (mg_1 _ _) ?_
          refine w_iconst (nx := 118) C (nI 2) dX9_lays_117 rfl (by decide) ?_
          refine w_bipush (nx := 120) C (nI 25) dX9_lays_118 rfl (by decide) ?_
          refine w_iload_n (nx := 121) C 1 dX9_lays_120 rfl rfl rfl ?_
          refine w_imul (nx := 122) C (nI (25 * t)) dX9_lays_121 rfl (pk_mul _ _) ?_
          refine w_iadd (nx := 123) C (nI (2 + 25 * t)) dX9_lays_122 rfl (nI_add _ _) ?_
          refine w_dup2 (nx := 124) C dX9_lays_123 rfl rfl rfl ?_
          refine w_iald (nx := 125) C (nI (zT τ t)) 1 (2 + 25 * t) dX9_lays_124 rfl rfl (by decide) rfl (by omega) ((upd_n (by omega)).trans ((upd_n (by omega)).trans ((h1 _ (by omega)).trans (rMT_z hT ht)))) ?_
          refine w_iconst (nx := 126) C (nI 1) dX9_lays_125 rfl (by decide) ?_
          refine w_iadd (nx := 127) C (nI (zT τ t + 1)) dX9_lays_126 rfl (nI_add _ _) ?_
          refine w_iast (nx := 128) (ws2 := [(a 0, mO a v), (a 1, aI (kG κ) 800 (upd (upd (upd g1 (2 + 25 * t + 1 + 2 * p) (nI ky)) (2 + 25 * t + 1 + 2 * p + 1) (nI nm)) (2 + 25 * t) (nI (zT τ t + 1))))]) C 1 (2 + 25 * t) dX9_lays_127 rfl rfl (by decide) rfl (by omega) rfl ?_
          exact w_vret C E dX9_lays_128 rfl (Nat.le_refl _) (Nat.le_refl _) ⟨_, rfl, rfl, (rMT_lay (p := p) hT hw ht hz (ipos_eq _ hp hgt (by omega)).symm h1 h2), (fun i hi => (upd_n (by omega)).trans ((upd_n (by omega)).trans ((upd_n (by omega)).trans (h1 i (by omega)))))⟩
        · refine w_aload_n (nx := 30) C 0 dX9_lays_29 rfl rfl rfl ?_
          refine w_getM (nx := 33) C (.ref (a 1)) 0 1 dX9_lays_30 rfl wl_X9_7 rfl (by decide) rfl (mg_1 _ _) ?_
          refine w_iload_n (nx := 34) C 1 dX9_lays_33 rfl rfl rfl ?_
          refine w_iload (nx := 36) C 4 dX9_lays_34 rfl rfl ?_
          refine w_callS (nx := 39) (wr := [(a 0, mO a v), (a 1, aI (kG κ) 800 g1)]) (rest := [.ref (a 1)]) C ms_X9_rowAt (c_X9_rowAt _ _ t p) dX9_lays_36 rfl wl_X9_104 rfl (pm_sel [0, 1] 2 (by decide +kernel) rfl rfl) rfl rfl (Nat.le_of_ble_eq_true rfl) (Nat.le_of_ble_eq_true rfl) (Nat.le_of_ble_eq_true rfl) (Nat.zero_le _) (Nat.zero_le _) (fun v9 w9 R_10 => ?_)
          obtain ⟨rfl, rfl⟩ := R_10
          show WW κ 0 0 [(a 0, mO a v), (a 1, aI (kG κ) 800 g1)] 39 [(0, .ref (a 0)), (1, .int (nI t)), (2, .int (nI ky)), (3, .int (nI nm)), (4, .int (nI p))] [.int (nI (2 + 25 * t + 1 + 2 * p)), .ref (a 1)]
          refine w_aload_n (nx := 40) C 0 dX9_lays_39 rfl rfl rfl ?_
          refine w_getM (nx := 43) C (.ref (a 1)) 0 1 dX9_lays_40 rfl wl_X9_7 rfl (by decide) rfl (mg_1 _ _) ?_
          refine w_iload_n (nx := 44) C 1 dX9_lays_43 rfl rfl rfl ?_
          refine w_iload (nx := 46) C 4 dX9_lays_44 rfl rfl ?_
          refine w_iconst (nx := 47) C (nI 1) dX9_lays_46 rfl (by decide) ?_
          refine w_isub (nx := 48) C (nI (p - 1)) dX9_lays_47 rfl (pk_sub (by omega)) ?_
          refine w_callS (nx := 51) (wr := [(a 0, mO a v), (a 1, aI (kG κ) 800 g1)]) (rest := [.ref (a 1), .int (nI (2 + 25 * t + 1 + 2 * p)), .ref (a 1)]) C ms_X9_rowAt (c_X9_rowAt _ _ t (p - 1)) dX9_lays_48 rfl wl_X9_104 rfl (pm_sel [0, 1] 2 (by decide +kernel) rfl rfl) rfl rfl (Nat.le_of_ble_eq_true rfl) (Nat.le_of_ble_eq_true rfl) (Nat.le_of_ble_eq_true rfl) (Nat.zero_le _) (Nat.zero_le _) (fun v9 w9 R_11 => ?_)
          obtain ⟨rfl, rfl⟩ := R_11
          show WW κ 0 0 [(a 0, mO a v), (a 1, aI (kG κ) 800 g1)] 51 [(0, .ref (a 0)), (1, .int (nI t)), (2, .int (nI ky)), (3, .int (nI nm)), (4, .int (nI p))] [.int (nI (2 + 25 * t + 1 + 2 * (p - 1))), .ref (a 1), .int (nI (2 + 25 * t + 1 + 2 * p)), .ref (a 1)]
          refine w_iald (nx := 52) C (g1 (2 + 25 * t + 1 + 2 * (p - 1))) 1 (2 + 25 * t + 1 + 2 * (p - 1)) dX9_lays_51 rfl rfl (by decide) rfl (by omega) rfl ?_
          refine w_iast (nx := 53) (ws2 := [(a 0, mO a v), (a 1, aI (kG κ) 800 (upd g1 (2 + 25 * t + 1 + 2 * p) (g1 (2 + 25 * t + 1 + 2 * (p - 1)))))]) C 1 (2 + 25 * t + 1 + 2 * p) dX9_lays_52 rfl rfl (by decide) rfl (by omega) rfl ?_
          refine w_aload_n (nx := 54) C 0 dX9_lays_53 rfl rfl rfl ?_
          refine w_getM (nx := 57) C (.ref (a 1)) 0 1 dX9_lays_54 rfl wl_X9_7 rfl (by decide) rfl (mg_1 _ _) ?_
          refine w_iload_n (nx := 58) C 1 dX9_lays_57 rfl rfl rfl ?_
          refine w_iload (nx := 60) C 4 dX9_lays_58 rfl rfl ?_
          refine w_callS (nx := 63) (wr := [(a 0, mO a v), (a 1, aI (kG κ) 800 (upd g1 (2 + 25 * t + 1 + 2 * p) (g1 (2 + 25 * t + 1 + 2 * (p - 1)))))]) (rest := [.ref (a 1)]) C ms_X9_rowAt (c_X9_rowAt _ _ t p) dX9_lays_60 rfl wl_X9_104 rfl (pm_sel [0, 1] 2 (by decide +kernel) rfl rfl) rfl rfl (Nat.le_of_ble_eq_true rfl) (Nat.le_of_ble_eq_true rfl) (Nat.le_of_ble_eq_true rfl) (Nat.zero_le _) (Nat.zero_le _) (fun v9 w9 R_12 => ?_)
          obtain ⟨rfl, rfl⟩ := R_12
          show WW κ 0 0 [(a 0, mO a v), (a 1, aI (kG κ) 800 (upd g1 (2 + 25 * t + 1 + 2 * p) (g1 (2 + 25 * t + 1 + 2 * (p - 1)))))] 63 [(0, .ref (a 0)), (1, .int (nI t)), (2, .int (nI ky)), (3, .int (nI nm)), (4, .int (nI p))] [.int (nI (2 + 25 * t + 1 + 2 * p)), .ref (a 1)]
          refine w_iconst (nx := 64) C (nI 1) dX9_lays_63 rfl (by decide) ?_
          refine w_iadd (nx := 65) C (nI (2 + 25 * t + 1 + 2 * p + 1)) dX9_lays_64 rfl (nI_add _ _) ?_
          refine w_aload_n (nx := 66) C 0 dX9_lays_65 rfl rfl rfl ?_
          refine w_getM (nx := 69) C (.ref (a 1)) 0 1 dX9_lays_66 rfl wl_X9_7 rfl (by decide) rfl (mg_1 _ _) ?_
          refine w_iload_n (nx := 70) C 1 dX9_lays_69 rfl rfl rfl ?_
          refine w_iload (nx := 72) C 4 dX9_lays_70 rfl rfl ?_
          refine w_iconst (nx := 73) C (nI 1) dX9_lays_72 rfl (by decide) ?_
          refine w_isub (nx := 74) C (nI (p - 1)) dX9_lays_73 rfl (pk_sub (by omega)) ?_
          refine w_callS (nx := 77) (wr := [(a 0, mO a v), (a 1, aI (kG κ) 800 (upd g1 (2 + 25 * t + 1 + 2 * p) (g1 (2 + 25 * t + 1 + 2 * (p - 1)))))]) (rest := [.ref (a 1), .int (nI (2 + 25 * t + 1 + 2 * p + 1)), .ref (a 1)]) C ms_X9_rowAt (c_X9_rowAt _ _ t (p - 1)) dX9_lays_74 rfl wl_X9_104 rfl (pm_sel [0, 1] 2 (by decide +kernel) rfl rfl) rfl rfl (Nat.le_of_ble_eq_true rfl) (Nat.le_of_ble_eq_true rfl) (Nat.le_of_ble_eq_true rfl) (Nat.zero_le _) (Nat.zero_le _) (fun v9 w9 R_13 => ?_)
          obtain ⟨rfl, rfl⟩ := R_13
          show WW κ 0 0 [(a 0, mO a v), (a 1, aI (kG κ) 800 (upd g1 (2 + 25 * t + 1 + 2 * p) (g1 (2 + 25 * t + 1 + 2 * (p - 1)))))] 77 [(0, .ref (a 0)), (1, .int (nI t)), (2, .int (nI ky)), (3, .int (nI nm)), (4, .int (nI p))] [.int (nI (2 + 25 * t + 1 + 2 * (p - 1))), .ref (a 1), .int (nI (2 + 25 * t + 1 + 2 * p + 1)), .ref (a 1)]
          refine w_iconst (nx := 78) C (nI 1) dX9_lays_77 rfl (by decide) ?_
          refine w_iadd (nx := 79) C (nI (2 + 25 * t + 1 + 2 * (p - 1) + 1)) dX9_lays_78 rfl (nI_add _ _) ?_
          refine w_iald (nx := 80) C ((upd g1 (2 + 25 * t + 1 + 2 * p) (g1 (2 + 25 * t + 1 + 2 * (p - 1)))) (2 + 25 * t + 1 + 2 * (p - 1) + 1)) 1 (2 + 25 * t + 1 + 2 * (p - 1) + 1) dX9_lays_79 rfl rfl (by decide) rfl (by omega) rfl ?_
          refine w_iast (nx := 81) (ws2 := [(a 0, mO a v), (a 1, aI (kG κ) 800 (upd (upd g1 (2 + 25 * t + 1 + 2 * p) (g1 (2 + 25 * t + 1 + 2 * (p - 1)))) (2 + 25 * t + 1 + 2 * p + 1) ((upd g1 (2 + 25 * t + 1 + 2 * p) (g1 (2 + 25 * t + 1 + 2 * (p - 1)))) (2 + 25 * t + 1 + 2 * (p - 1) + 1))))]) C 1 (2 + 25 * t + 1 + 2 * p + 1) dX9_lays_80 rfl rfl (by decide) rfl (by omega) rfl ?_
          refine w_iinc (nx := 84) (lo2 := [(4, .int (nI (p - 1))), (0, .ref (a 0)), (1, .int (nI t)), (2, .int (nI ky)), (3, .int (nI nm))]) C (nI (p - 1)) 4 dX9_lays_81 rfl rfl (nI_dec (k := 1) (by omega)) (by decide) rfl ?_
          refine w_goto (nx := 7) C dX9_lays_84 rfl ?_
          refine ww_lo [1, 2, 3, 4, 0] (lo' := [(0, .ref (a 0)), (1, .int (nI t)), (2, .int (nI ky)), (3, .int (nI nm)), (4, .int (nI (p - 1)))]) rfl ?_
          exact ih9_7 (upd (upd g1 (2 + 25 * t + 1 + 2 * p) (g1 (2 + 25 * t + 1 + 2 * (p - 1)))) (2 + 25 * t + 1 + 2 * p + 1) ((upd g1 (2 + 25 * t + 1 + 2 * p) (g1 (2 + 25 * t + 1 + 2 * (p - 1)))) (2 + 25 * t + 1 + 2 * (p - 1) + 1))) (p - 1) (by first | assumption | omega) (fun q a b => (Nat.lt_or_ge q p).elim (fun z => by have e9 : q = p - 1 := (by omega); subst e9; omega) (fun z => hgt q z b)) (fun i hi => (upd_n (by omega)).trans ((upd_n (by omega)).trans (h1 i (by omega)))) (fun j a b => (Nat.lt_or_ge p j).elim (fun z => ⟨(upd_n (by omega)).trans ((upd_n (by omega)).trans (h2 j z b).1), (upd_n (by omega)).trans ((upd_n (by omega)).trans (h2 j z b).2)⟩) (fun z => by have e9 : j = p := (by omega); subst e9; exact ⟨(upd_n (by omega)).trans ((upd_e rfl).trans (h1 _ (by omega))), (upd_e rfl).trans ((upd_n (by omega)).trans (h1 _ (by omega)))⟩)) (by omega)
  refine ww_lo [1, 2, 3, 4, 0] (lo' := [(0, .ref (a 0)), (1, .int (nI t)), (2, .int (nI ky)), (3, .int (nI nm)), (4, .int (nI (zT τ t)))]) rfl ?_
  exact LP_2 _ f1 (zT τ t) (Nat.le_refl _) (fun q a b => absurd b (by omega)) (fun _ _ => rfl) (fun j a b => absurd b (by omega)) (Nat.lt_succ_self _)
set_option maxHeartbeats 4000000 in
set_option maxRecDepth 100000 in
theorem c_X9_drops (l : Launch) (G : GG) (a : Nat → Nat) (v : Nat → Int32) (f1 : Nat → Int32) (τ : TB) (t : Nat) (p : Nat) (hT : rMT f1 τ) (hw : wfT τ) (ht : t < 4) (hp : p < zT τ t) : MT l G yX9_drops cX9_drops 5 none 2 0 0 [.ref (a 0), .int (nI t), .int (nI p)] [(a 0, mO a v), (a 1, aI G 800 f1)] (fun v9 ws9 => ∃ (g1 : Nat → Int32), v9 = none ∧ ws9 = [(a 0, mO a v), (a 1, aI G 800 g1)] ∧ rMT g1 (drpT τ t p) ∧ sMO f1 g1) := by
  refine MT.of RX9 [(0, .ref (a 0)), (1, .int (nI t)), (2, .int (nI p))] (by decide +kernel) rfl rfl (Nat.le_of_ble_eq_true rfl) (fun κ C E hl9 hG9 hnm9 => ?_)
  subst hl9; subst hG9
  have hz := (hw t ht).1
  refine w_aload_n (nx := 1) C 0 dX9_drops_0 rfl rfl rfl ?_
  refine w_iload_n (nx := 2) C 1 dX9_drops_1 rfl rfl rfl ?_
  refine w_callV (nx := 5) (wr := []) (rest := []) C mi_X9_rows (c_X9_rows _ _ a v f1 τ t (by first | assumption | omega) (by first | assumption | omega) (by first | assumption | omega)) 0 dX9_drops_2 rfl wl_X9_100 rfl rfl rfl (pm_sel [0, 1] 2 (by decide +kernel) rfl rfl) rfl rfl (Nat.le_of_ble_eq_true rfl) (Nat.le_of_ble_eq_true rfl) (Nat.le_of_ble_eq_true rfl) (Nat.zero_le _) (Nat.zero_le _) (fun v9 w9 R_1 => ?_)
  obtain ⟨rfl, rfl⟩ := R_1
  show WW κ 0 0 [(a 0, mO a v), (a 1, aI (kG κ) 800 f1)] 5 [(0, .ref (a 0)), (1, .int (nI t)), (2, .int (nI p))] [.int (nI (zT τ t))]
  refine w_iconst (nx := 6) C (nI 1) dX9_drops_5 rfl (by decide) ?_
  refine w_isub (nx := 7) C (nI (zT τ t - 1)) dX9_drops_6 rfl (pk_sub (by omega)) ?_
  refine w_istore_n (nx := 8) (lo2 := [(3, .int (nI (zT τ t - 1))), (0, .ref (a 0)), (1, .int (nI t)), (2, .int (nI p))]) C dX9_drops_7 rfl rfl (by decide) rfl ?_
  refine w_iload_n (nx := 9) C 3 dX9_drops_8 rfl rfl rfl ?_
  refine w_istore (nx := 11) (lo2 := [(4, .int (nI p)), (3, .int (nI (zT τ t - 1))), (0, .ref (a 0)), (1, .int (nI t)), (2, .int (nI p))]) C dX9_drops_9 rfl (by decide) rfl ?_
  have LP_2 : ∀ (N9_11 : Nat) (g1 : Nat → Int32) (q : Nat), (p ≤ q) → (q ≤ zT τ t - 1) → (∀ i, (i < 2 + 25 * t + 1 + 2 * p ∨ 2 + 25 * t + 1 + 2 * q ≤ i) → g1 i = f1 i) → (∀ j, p ≤ j → j < q → g1 (2 + 25 * t + 1 + 2 * j) = f1 (2 + 25 * t + 1 + 2 * (j + 1)) ∧ g1 (2 + 25 * t + 1 + 2 * j + 1) = f1 (2 + 25 * t + 1 + 2 * (j + 1) + 1)) → (zT τ t - 1 - q) < N9_11 → WW κ 0 0 [(a 0, mO a v), (a 1, aI (kG κ) 800 g1)] 11 [(0, .ref (a 0)), (1, .int (nI t)), (2, .int (nI p)), (3, .int (nI (zT τ t - 1))), (4, .int (nI q))] [] := by
    intro N9_11
    induction N9_11 with
    | zero => intro g1 q hq1 hq2 h1 h2 hm9_11; exact absurd hm9_11 (Nat.not_lt_zero _)
    | succ N9_11 ih9_11 =>
      intro g1 q hq1 hq2 h1 h2 hm9_11
      refine w_iload (nx := 13) C 4 dX9_drops_11 rfl rfl ?_
      refine w_iload_n (nx := 14) C 3 dX9_drops_13 rfl rfl rfl ?_
      refine n_icmp_ge (tg := 75) (nx := 17) C dX9_drops_14 rfl rfl (by omega) (by omega) (fun h_3 => ?_) (fun h_3 => ?_)
      · refine w_aload_n (nx := 76) C 0 dX9_drops_75 rfl rfl rfl ?_
        refine w_getM (nx := 79) C (.ref (a 1)) 0 1 dX9_drops_76 rfl wl_X9_7 rfl (by decide) rfl (mg_1 _ _) ?_
        refine w_iload_n (nx := 80) C 1 dX9_drops_79 rfl rfl rfl ?_
        refine w_iload_n (nx := 81) C 3 dX9_drops_80 rfl rfl rfl ?_
        refine w_callS (nx := 84) (wr := [(a 0, mO a v), (a 1, aI (kG κ) 800 g1)]) (rest := [.ref (a 1)]) C ms_X9_rowAt (c_X9_rowAt _ _ t (zT τ t - 1)) dX9_drops_81 rfl wl_X9_104 rfl (pm_sel [0, 1] 2 (by decide +kernel) rfl rfl) rfl rfl (Nat.le_of_ble_eq_true rfl) (Nat.le_of_ble_eq_true rfl) (Nat.le_of_ble_eq_true rfl) (Nat.zero_le _) (Nat.zero_le _) (fun v9 w9 R_4 => ?_)
        obtain ⟨rfl, rfl⟩ := R_4
        show WW κ 0 0 [(a 0, mO a v), (a 1, aI (kG κ) 800 g1)] 84 [(0, .ref (a 0)), (1, .int (nI t)), (2, .int (nI p)), (3, .int (nI (zT τ t - 1))), (4, .int (nI q))] [.int (nI (2 + 25 * t + 1 + 2 * (zT τ t - 1))), .ref (a 1)]
        refine w_iconst (nx := 85) C (nI 0) dX9_drops_84 rfl (by decide) ?_
        refine w_iast (nx := 86) (ws2 := [(a 0, mO a v), (a 1, aI (kG κ) 800 (upd g1 (2 + 25 * t + 1 + 2 * (zT τ t - 1)) (nI 0)))]) C 1 (2 + 25 * t + 1 + 2 * (zT τ t - 1)) dX9_drops_85 rfl rfl (by decide) rfl (by omega) rfl ?_
        refine w_aload_n (nx := 87) C 0 dX9_drops_86 rfl rfl rfl ?_
        refine w_getM (nx := 90) C (.ref (a 1)) 0 1 dX9_drops_87 rfl wl_X9_7 rfl (by decide) rfl (mg_1 _ _) ?_
        refine w_iload_n (nx := 91) C 1 dX9_drops_90 rfl rfl rfl ?_
        refine w_iload_n (nx := 92) C 3 dX9_drops_91 rfl rfl rfl ?_
        refine w_callS (nx := 95) (wr := [(a 0, mO a v), (a 1, aI (kG κ) 800 (upd g1 (2 + 25 * t + 1 + 2 * (zT τ t - 1)) (nI 0)))]) (rest := [.ref (a 1)]) C ms_X9_rowAt (c_X9_rowAt _ _ t (zT τ t - 1)) dX9_drops_92 rfl wl_X9_104 rfl (pm_sel [0, 1] 2 (by decide +kernel) rfl rfl) rfl rfl (Nat.le_of_ble_eq_true rfl) (Nat.le_of_ble_eq_true rfl) (Nat.le_of_ble_eq_true rfl) (Nat.zero_le _) (Nat.zero_le _) (fun v9 w9 R_5 => ?_)
        obtain ⟨rfl, rfl⟩ := R_5
        show WW κ 0 0 [(a 0, mO a v), (a 1, aI (kG κ) 800 (upd g1 (2 + 25 * t + 1 + 2 * (zT τ t - 1)) (nI 0)))] 95 [(0, .ref (a 0)), (1, .int (nI t)), (2, .int (nI p)), (3, .int (nI (zT τ t - 1))), (4, .int (nI q))] [.int (nI (2 + 25 * t + 1 + 2 * (zT τ t - 1))), .ref (a 1)]
        refine w_iconst (nx := 96) C (nI 1) dX9_drops_95 rfl (by decide) ?_
        refine w_iadd (nx := 97) C (nI (2 + 25 * t + 1 + 2 * (zT τ t - 1) + 1)) dX9_drops_96 rfl (nI_add _ _) ?_
        refine w_iconst (nx := 98) C (nI 0) dX9_drops_97 rfl (by decide) ?_
        refine w_iast (nx := 99) (ws2 := [(a 0, mO a v), (a 1, aI (kG κ) 800 (upd (upd g1 (2 + 25 * t + 1 + 2 * (zT τ t - 1)) (nI 0)) (2 + 25 * t + 1 + 2 * (zT τ t - 1) + 1) (nI 0)))]) C 1 (2 + 25 * t + 1 + 2 * (zT τ t - 1) + 1) dX9_drops_98 rfl rfl (by decide) rfl (by omega) rfl ?_
        refine w_aload_n (nx := 100) C 0 dX9_drops_99 rfl rfl rfl ?_
        refine w_getM (nx := 103) C (.ref (a 1)) 0 1 dX9_drops_100 rfl wl_X9_7 rfl (by decide) rfl (mg_1 _ _) ?_
        refine w_iconst (nx := 104) C (nI 2) dX9_drops_103 rfl (by decide) ?_
        refine w_bipush (nx := 106) C (nI 25) dX9_drops_104 rfl (by decide) ?_
        refine w_iload_n (nx := 107) C 1 dX9_drops_106 rfl rfl rfl ?_
        refine w_imul (nx := 108) C (nI (25 * t)) dX9_drops_107 rfl (pk_mul _ _) ?_
        refine w_iadd (nx := 109) C (nI (2 + 25 * t)) dX9_drops_108 rfl (nI_add _ _) ?_
        refine w_dup2 (nx := 110) C dX9_drops_109 rfl rfl rfl ?_
        refine w_iald (nx := 111) C (nI (zT τ t)) 1 (2 + 25 * t) dX9_drops_110 rfl rfl (by decide) rfl (by omega) ((upd_n (by omega)).trans ((upd_n (by omega)).trans ((h1 _ (by omega)).trans (rMT_z hT ht)))) ?_
        refine w_iconst (nx := 112) C (nI 1) dX9_drops_111 rfl (by decide) ?_
        refine w_isub (nx := 113) C (nI (zT τ t - 1)) dX9_drops_112 rfl (pk_sub (by omega)) ?_
        refine w_iast (nx := 114) (ws2 := [(a 0, mO a v), (a 1, aI (kG κ) 800 (upd (upd (upd g1 (2 + 25 * t + 1 + 2 * (zT τ t - 1)) (nI 0)) (2 + 25 * t + 1 + 2 * (zT τ t - 1) + 1) (nI 0)) (2 + 25 * t) (nI (zT τ t - 1))))]) C 1 (2 + 25 * t) dX9_drops_113 rfl rfl (by decide) rfl (by omega) rfl ?_
        exact w_vret C E dX9_drops_114 rfl (Nat.le_refl _) (Nat.le_refl _) ⟨_, rfl, rfl, (rMT_drp (p := p) hT hw ht hp (fun i hi => h1 i (by omega)) (fun j a b => h2 j a (by omega))), (fun i hi => (upd_n (by omega)).trans ((upd_n (by omega)).trans ((upd_n (by omega)).trans (h1 i (by omega)))))⟩
      · refine w_aload_n (nx := 18) C 0 dX9_drops_17 rfl rfl rfl ?_
        refine w_getM (nx := 21) C (.ref (a 1)) 0 1 dX9_drops_18 rfl wl_X9_7 rfl (by decide) rfl (mg_1 _ _) ?_
        refine w_iload_n (nx := 22) C 1 dX9_drops_21 rfl rfl rfl ?_
        refine w_iload (nx := 24) C 4 dX9_drops_22 rfl rfl ?_
        refine w_callS (nx := 27) (wr := [(a 0, mO a v), (a 1, aI (kG κ) 800 g1)]) (rest := [.ref (a 1)]) C ms_X9_rowAt (c_X9_rowAt _ _ t q) dX9_drops_24 rfl wl_X9_104 rfl (pm_sel [0, 1] 2 (by decide +kernel) rfl rfl) rfl rfl (Nat.le_of_ble_eq_true rfl) (Nat.le_of_ble_eq_true rfl) (Nat.le_of_ble_eq_true rfl) (Nat.zero_le _) (Nat.zero_le _) (fun v9 w9 R_6 => ?_)
        obtain ⟨rfl, rfl⟩ := R_6
        show WW κ 0 0 [(a 0, mO a v), (a 1, aI (kG κ) 800 g1)] 27 [(0, .ref (a 0)), (1, .int (nI t)), (2, .int (nI p)), (3, .int (nI (zT τ t - 1))), (4, .int (nI q))] [.int (nI (2 + 25 * t + 1 + 2 * q)), .ref (a 1)]
        refine w_aload_n (nx := 28) C 0 dX9_drops_27 rfl rfl rfl ?_
        refine w_getM (nx := 31) C (.ref (a 1)) 0 1 dX9_drops_28 rfl wl_X9_7 rfl (by decide) rfl (mg_1 _ _) ?_
        refine w_iload_n (nx := 32) C 1 dX9_drops_31 rfl rfl rfl ?_
        refine w_iload (nx := 34) C 4 dX9_drops_32 rfl rfl ?_
        refine w_iconst (nx := 35) C (nI 1) dX9_drops_34 rfl (by decide) ?_
        refine w_iadd (nx := 36) C (nI (q + 1)) dX9_drops_35 rfl (nI_add _ _) ?_
        refine w_callS (nx := 39) (wr := [(a 0, mO a v), (a 1, aI (kG κ) 800 g1)]) (rest := [.ref (a 1), .int (nI (2 + 25 * t + 1 + 2 * q)), .ref (a 1)]) C ms_X9_rowAt (c_X9_rowAt _ _ t (q + 1)) dX9_drops_36 rfl wl_X9_104 rfl (pm_sel [0, 1] 2 (by decide +kernel) rfl rfl) rfl rfl (Nat.le_of_ble_eq_true rfl) (Nat.le_of_ble_eq_true rfl) (Nat.le_of_ble_eq_true rfl) (Nat.zero_le _) (Nat.zero_le _) (fun v9 w9 R_7 => ?_)
        obtain ⟨rfl, rfl⟩ := R_7
        show WW κ 0 0 [(a 0, mO a v), (a 1, aI (kG κ) 800 g1)] 39 [(0, .ref (a 0)), (1, .int (nI t)), (2, .int (nI p)), (3, .int (nI (zT τ t - 1))), (4, .int (nI q))] [.int (nI (2 + 25 * t + 1 + 2 * (q + 1))), .ref (a 1), .int (nI (2 + 25 * t + 1 + 2 * q)), .ref (a 1)]
        refine w_iald (nx := 40) C (g1 (2 + 25 * t + 1 + 2 * (q + 1))) 1 (2 + 25 * t + 1 + 2 * (q + 1)) dX9_drops_39 rfl rfl (by decide) rfl (by omega) rfl ?_
        refine w_iast (nx := 41) (ws2 := [(a 0, mO a v), (a 1, aI (kG κ) 800 (upd g1 (2 + 25 * t + 1 + 2 * q) (g1 (2 + 25 * t + 1 + 2 * (q + 1)))))]) C 1 (2 + 25 * t + 1 + 2 * q) dX9_drops_40 rfl rfl (by decide) rfl (by omega) rfl ?_
        refine w_aload_n (nx := 42) C 0 dX9_drops_41 rfl rfl rfl ?_
        refine w_getM (nx := 45) C (.ref (a 1)) 0 1 dX9_drops_42 rfl wl_X9_7 rfl (by decide) rfl (mg_1 _ _) ?_
        refine w_iload_n (nx := 46) C 1 dX9_drops_45 rfl rfl rfl ?_
        refine w_iload (nx := 48) C 4 dX9_drops_46 rfl rfl ?_
        refine w_callS (nx := 51) (wr := [(a 0, mO a v), (a 1, aI (kG κ) 800 (upd g1 (2 + 25 * t + 1 + 2 * q) (g1 (2 + 25 * t + 1 + 2 * (q + 1)))))]) (rest := [.ref (a 1)]) C ms_X9_rowAt (c_X9_rowAt _ _ t q) dX9_drops_48 rfl wl_X9_104 rfl (pm_sel [0, 1] 2 (by decide +kernel) rfl rfl) rfl rfl (Nat.le_of_ble_eq_true rfl) (Nat.le_of_ble_eq_true rfl) (Nat.le_of_ble_eq_true rfl) (Nat.zero_le _) (Nat.zero_le _) (fun v9 w9 R_8 => ?_)
        obtain ⟨rfl, rfl⟩ := R_8
        show WW κ 0 0 [(a 0, mO a v), (a 1, aI (kG κ) 800 (upd g1 (2 + 25 * t + 1 + 2 * q) (g1 (2 + 25 * t + 1 + 2 * (q + 1)))))] 51 [(0, .ref (a 0)), (1, .int (nI t)), (2, .int (nI p)), (3, .int (nI (zT τ t - 1))), (4, .int (nI q))] [.int (nI (2 + 25 * t + 1 + 2 * q)), .ref (a 1)]
        refine w_iconst (nx := 52) C (nI 1) dX9_drops_51 rfl (by decide) ?_
        refine w_iadd (nx := 53) C (nI (2 + 25 * t + 1 + 2 * q + 1)) dX9_drops_52 rfl (nI_add _ _) ?_
        refine w_aload_n (nx := 54) C 0 dX9_drops_53 rfl rfl rfl ?_
        refine w_getM (nx := 57) C (.ref (a 1)) 0 1 dX9_drops_54 rfl wl_X9_7 rfl (by decide) rfl (mg_1 _ _) ?_
        refine w_iload_n (nx := 58) C 1 dX9_drops_57 rfl rfl rfl ?_
        refine w_iload (nx := 60) C 4 dX9_drops_58 rfl rfl ?_
        refine w_iconst (nx := 61) C (nI 1) dX9_drops_60 rfl (by decide) ?_
        refine w_iadd (nx := 62) C (nI (q + 1)) dX9_drops_61 rfl (nI_add _ _) ?_
        refine w_callS (nx := 65) (wr := [(a 0, mO a v), (a 1, aI (kG κ) 800 (upd g1 (2 + 25 * t + 1 + 2 * q) (g1 (2 + 25 * t + 1 + 2 * (q + 1)))))]) (rest := [.ref (a 1), .int (nI (2 + 25 * t + 1 + 2 * q + 1)), .ref (a 1)]) C ms_X9_rowAt (c_X9_rowAt _ _ t (q + 1)) dX9_drops_62 rfl wl_X9_104 rfl (pm_sel [0, 1] 2 (by decide +kernel) rfl rfl) rfl rfl (Nat.le_of_ble_eq_true rfl) (Nat.le_of_ble_eq_true rfl) (Nat.le_of_ble_eq_true rfl) (Nat.zero_le _) (Nat.zero_le _) (fun v9 w9 R_9 => ?_)
        obtain ⟨rfl, rfl⟩ := R_9
        show WW κ 0 0 [(a 0, mO a v), (a 1, aI (kG κ) 800 (upd g1 (2 + 25 * t + 1 + 2 * q) (g1 (2 + 25 * t + 1 + 2 * (q + 1)))))] 65 [(0, .ref (a 0)), (1, .int (nI t)), (2, .int (nI p)), (3, .int (nI (zT τ t - 1))), (4, .int (nI q))] [.int (nI (2 + 25 * t + 1 + 2 * (q + 1))), .ref (a 1), .int (nI (2 + 25 * t + 1 + 2 * q + 1)), .ref (a 1)]
        refine w_iconst (nx := 66) C (nI 1) dX9_drops_65 rfl (by decide) ?_
        refine w_iadd (nx := 67) C (nI (2 + 25 * t + 1 + 2 * (q + 1) + 1)) dX9_drops_66 rfl (nI_add _ _) ?_
        refine w_iald (nx := 68) C ((upd g1 (2 + 25 * t + 1 + 2 * q) (g1 (2 + 25 * t + 1 + 2 * (q + 1)))) (2 + 25 * t + 1 + 2 * (q + 1) + 1)) 1 (2 + 25 * t + 1 + 2 * (q + 1) + 1) dX9_drops_67 rfl rfl (by decide) rfl (by omega) rfl ?_
        refine w_iast (nx := 69) (ws2 := [(a 0, mO a v), (a 1, aI (kG κ) 800 (upd (upd g1 (2 + 25 * t + 1 + 2 * q) (g1 (2 + 25 * t + 1 + 2 * (q + 1)))) (2 + 25 * t + 1 + 2 * q + 1) ((upd g1 (2 + 25 * t + 1 + 2 * q) (g1 (2 + 25 * t + 1 + 2 * (q + 1)))) (2 + 25 * t + 1 + 2 * (q + 1) + 1))))]) C 1 (2 + 25 * t + 1 + 2 * q + 1) dX9_drops_68 rfl rfl (by decide) rfl (by omega) rfl ?_
        refine w_iinc (nx := 72) (lo2 := [(4, .int (nI (q + 1))), (0, .ref (a 0)), (1, .int (nI t)), (2, .int (nI p)), (3, .int (nI (zT τ t - 1)))]) C (nI (q + 1)) 4 dX9_drops_69 rfl rfl (nI_add _ _) (by decide) rfl ?_
        refine w_goto (nx := 11) C dX9_drops_72 rfl ?_
        refine ww_lo [1, 2, 3, 4, 0] (lo' := [(0, .ref (a 0)), (1, .int (nI t)), (2, .int (nI p)), (3, .int (nI (zT τ t - 1))), (4, .int (nI (q + 1)))]) rfl ?_
        exact ih9_11 (upd (upd g1 (2 + 25 * t + 1 + 2 * q) (g1 (2 + 25 * t + 1 + 2 * (q + 1)))) (2 + 25 * t + 1 + 2 * q + 1) ((upd g1 (2 + 25 * t + 1 + 2 * q) (g1 (2 + 25 * t + 1 + 2 * (q + 1)))) (2 + 25 * t + 1 + 2 * (q + 1) + 1))) (q + 1) (by first | assumption | omega) (by first | assumption | omega) (fun i hi => (upd_n (by omega)).trans ((upd_n (by omega)).trans (h1 i (by omega)))) (fun j a b => (Nat.lt_or_ge j q).elim (fun z => ⟨(upd_n (by omega)).trans ((upd_n (by omega)).trans (h2 j a z).1), (upd_n (by omega)).trans ((upd_n (by omega)).trans (h2 j a z).2)⟩) (fun z => by have e9 : j = q := (by omega); subst e9; exact ⟨(upd_n (by omega)).trans ((upd_e rfl).trans (h1 _ (by omega))), (upd_e rfl).trans ((upd_n (by omega)).trans (h1 _ (by omega)))⟩)) (by omega)
  refine ww_lo [2, 3, 4, 1, 0] (lo' := [(0, .ref (a 0)), (1, .int (nI t)), (2, .int (nI p)), (3, .int (nI (zT τ t - 1))), (4, .int (nI p))]) rfl ?_
  exact LP_2 _ f1 p (Nat.le_refl _) (by first | assumption | omega) (fun _ _ => rfl) (fun j a b => absurd b (by omega)) (Nat.lt_succ_self _)
set_option maxHeartbeats 4000000 in
set_option maxRecDepth 100000 in
theorem c_X9_allRows (l : Launch) (G : GG) (a : Nat → Nat) (v : Nat → Int32) (f1 : Nat → Int32) (τ : TB) (hT : rMT f1 τ) (hw : wfT τ) : MT l G yX9_allRows cX9_allRows 3 (some .int) 2 0 0 [.ref (a 0)] [(a 0, mO a v), (a 1, aI G 800 f1)] (fun v9 ws9 => v9 = some (.int (nI (allT τ))) ∧ ws9 = [(a 0, mO a v), (a 1, aI G 800 f1)]) := by
  refine MT.of RX9 [(0, .ref (a 0))] (by decide +kernel) rfl rfl (Nat.le_of_ble_eq_true rfl) (fun κ C E hl9 hG9 hnm9 => ?_)
  subst hl9; subst hG9
  refine w_iconst (nx := 1) C (nI 0) dX9_allRows_0 rfl (by decide) ?_
  refine w_istore_n (nx := 2) (lo2 := [(1, .int (nI 0)), (0, .ref (a 0))]) C dX9_allRows_1 rfl rfl (by decide) rfl ?_
  refine w_iconst (nx := 3) C (nI 0) dX9_allRows_2 rfl (by decide) ?_
  refine w_istore_n (nx := 4) (lo2 := [(2, .int (nI 0)), (1, .int (nI 0)), (0, .ref (a 0))]) C dX9_allRows_3 rfl rfl (by decide) rfl ?_
  refine w_iload_n (nx := 5) C 0 dX9_allRows_4 rfl rfl rfl ?_
  refine w_iconst (nx := 6) C (nI 4) dX9_allRows_5 rfl (by decide) ?_
  refine n_icmp_ge (tg := 23) (nx := 9) C dX9_allRows_6 rfl rfl (by decide) (by decide) (fun q9 => absurd q9 (by decide)) (fun _ => ?_)
  refine w_iload_n (nx := 10) C 1 dX9_allRows_9 rfl rfl rfl ?_
  refine w_aload_n (nx := 11) C 2 dX9_allRows_10 rfl rfl rfl ?_
  refine w_iload_n (nx := 12) C 0 dX9_allRows_11 rfl rfl rfl ?_
  refine w_callV (nx := 15) (wr := []) (rest := [.int (nI 0)]) C mi_X9_rows (c_X9_rows _ _ a v f1 τ 0 (by first | assumption | omega) (by first | assumption | omega) (by first | assumption | omega)) 0 dX9_allRows_12 rfl wl_X9_100 rfl rfl rfl (pm_sel [0, 1] 2 (by decide +kernel) rfl rfl) rfl rfl (Nat.le_of_ble_eq_true rfl) (Nat.le_of_ble_eq_true rfl) (Nat.le_of_ble_eq_true rfl) (Nat.zero_le _) (Nat.zero_le _) (fun v9 w9 R_2 => ?_)
  obtain ⟨rfl, rfl⟩ := R_2
  show WW κ 0 0 [(a 0, mO a v), (a 1, aI (kG κ) 800 f1)] 15 [(2, .int (nI 0)), (1, .int (nI 0)), (0, .ref (a 0))] [.int (nI (zT τ 0)), .int (nI 0)]
  refine w_iadd (nx := 16) C (nI (0 + zT τ 0)) dX9_allRows_15 rfl (nI_add _ _) ?_
  refine w_istore_n (nx := 17) (lo2 := [(1, .int (nI (0 + zT τ 0))), (2, .int (nI 0)), (0, .ref (a 0))]) C dX9_allRows_16 rfl rfl (by decide) rfl ?_
  refine w_iinc (nx := 20) (lo2 := [(2, .int (nI 1)), (1, .int (nI (0 + zT τ 0))), (0, .ref (a 0))]) C (nI 1) 1 dX9_allRows_17 rfl rfl (nI_add _ _) (by decide) rfl ?_
  refine w_goto (nx := 4) C dX9_allRows_20 rfl ?_
  refine w_iload_n (nx := 5) C 0 dX9_allRows_4 rfl rfl rfl ?_
  refine w_iconst (nx := 6) C (nI 4) dX9_allRows_5 rfl (by decide) ?_
  refine n_icmp_ge (tg := 23) (nx := 9) C dX9_allRows_6 rfl rfl (by decide) (by decide) (fun q9 => absurd q9 (by decide)) (fun _ => ?_)
  refine w_iload_n (nx := 10) C 1 dX9_allRows_9 rfl rfl rfl ?_
  refine w_aload_n (nx := 11) C 2 dX9_allRows_10 rfl rfl rfl ?_
  refine w_iload_n (nx := 12) C 0 dX9_allRows_11 rfl rfl rfl ?_
  refine w_callV (nx := 15) (wr := []) (rest := [.int (nI (0 + zT τ 0))]) C mi_X9_rows (c_X9_rows _ _ a v f1 τ 1 (by first | assumption | omega) (by first | assumption | omega) (by first | assumption | omega)) 0 dX9_allRows_12 rfl wl_X9_100 rfl rfl rfl (pm_sel [0, 1] 2 (by decide +kernel) rfl rfl) rfl rfl (Nat.le_of_ble_eq_true rfl) (Nat.le_of_ble_eq_true rfl) (Nat.le_of_ble_eq_true rfl) (Nat.zero_le _) (Nat.zero_le _) (fun v9 w9 R_4 => ?_)
  obtain ⟨rfl, rfl⟩ := R_4
  show WW κ 0 0 [(a 0, mO a v), (a 1, aI (kG κ) 800 f1)] 15 [(2, .int (nI 1)), (1, .int (nI (0 + zT τ 0))), (0, .ref (a 0))] [.int (nI (zT τ 1)), .int (nI (0 + zT τ 0))]
  refine w_iadd (nx := 16) C (nI (0 + zT τ 0 + zT τ 1)) dX9_allRows_15 rfl (nI_add _ _) ?_
  refine w_istore_n (nx := 17) (lo2 := [(1, .int (nI (0 + zT τ 0 + zT τ 1))), (2, .int (nI 1)), (0, .ref (a 0))]) C dX9_allRows_16 rfl rfl (by decide) rfl ?_
  refine w_iinc (nx := 20) (lo2 := [(2, .int (nI 2)), (1, .int (nI (0 + zT τ 0 + zT τ 1))), (0, .ref (a 0))]) C (nI 2) 1 dX9_allRows_17 rfl rfl (nI_add _ _) (by decide) rfl ?_
  refine w_goto (nx := 4) C dX9_allRows_20 rfl ?_
  refine w_iload_n (nx := 5) C 0 dX9_allRows_4 rfl rfl rfl ?_
  refine w_iconst (nx := 6) C (nI 4) dX9_allRows_5 rfl (by decide) ?_
  refine n_icmp_ge (tg := 23) (nx := 9) C dX9_allRows_6 rfl rfl (by decide) (by decide) (fun q9 => absurd q9 (by decide)) (fun _ => ?_)
  refine w_iload_n (nx := 10) C 1 dX9_allRows_9 rfl rfl rfl ?_
  refine w_aload_n (nx := 11) C 2 dX9_allRows_10 rfl rfl rfl ?_
  refine w_iload_n (nx := 12) C 0 dX9_allRows_11 rfl rfl rfl ?_
  refine w_callV (nx := 15) (wr := []) (rest := [.int (nI (0 + zT τ 0 + zT τ 1))]) C mi_X9_rows (c_X9_rows _ _ a v f1 τ 2 (by first | assumption | omega) (by first | assumption | omega) (by first | assumption | omega)) 0 dX9_allRows_12 rfl wl_X9_100 rfl rfl rfl (pm_sel [0, 1] 2 (by decide +kernel) rfl rfl) rfl rfl (Nat.le_of_ble_eq_true rfl) (Nat.le_of_ble_eq_true rfl) (Nat.le_of_ble_eq_true rfl) (Nat.zero_le _) (Nat.zero_le _) (fun v9 w9 R_6 => ?_)
  obtain ⟨rfl, rfl⟩ := R_6
  show WW κ 0 0 [(a 0, mO a v), (a 1, aI (kG κ) 800 f1)] 15 [(2, .int (nI 2)), (1, .int (nI (0 + zT τ 0 + zT τ 1))), (0, .ref (a 0))] [.int (nI (zT τ 2)), .int (nI (0 + zT τ 0 + zT τ 1))]
  refine w_iadd (nx := 16) C (nI (0 + zT τ 0 + zT τ 1 + zT τ 2)) dX9_allRows_15 rfl (nI_add _ _) ?_
  refine w_istore_n (nx := 17) (lo2 := [(1, .int (nI (0 + zT τ 0 + zT τ 1 + zT τ 2))), (2, .int (nI 2)), (0, .ref (a 0))]) C dX9_allRows_16 rfl rfl (by decide) rfl ?_
  refine w_iinc (nx := 20) (lo2 := [(2, .int (nI 3)), (1, .int (nI (0 + zT τ 0 + zT τ 1 + zT τ 2))), (0, .ref (a 0))]) C (nI 3) 1 dX9_allRows_17 rfl rfl (nI_add _ _) (by decide) rfl ?_
  refine w_goto (nx := 4) C dX9_allRows_20 rfl ?_
  refine w_iload_n (nx := 5) C 0 dX9_allRows_4 rfl rfl rfl ?_
  refine w_iconst (nx := 6) C (nI 4) dX9_allRows_5 rfl (by decide) ?_
  refine n_icmp_ge (tg := 23) (nx := 9) C dX9_allRows_6 rfl rfl (by decide) (by decide) (fun q9 => absurd q9 (by decide)) (fun _ => ?_)
  refine w_iload_n (nx := 10) C 1 dX9_allRows_9 rfl rfl rfl ?_
  refine w_aload_n (nx := 11) C 2 dX9_allRows_10 rfl rfl rfl ?_
  refine w_iload_n (nx := 12) C 0 dX9_allRows_11 rfl rfl rfl ?_
  refine w_callV (nx := 15) (wr := []) (rest := [.int (nI (0 + zT τ 0 + zT τ 1 + zT τ 2))]) C mi_X9_rows (c_X9_rows _ _ a v f1 τ 3 (by first | assumption | omega) (by first | assumption | omega) (by first | assumption | omega)) 0 dX9_allRows_12 rfl wl_X9_100 rfl rfl rfl (pm_sel [0, 1] 2 (by decide +kernel) rfl rfl) rfl rfl (Nat.le_of_ble_eq_true rfl) (Nat.le_of_ble_eq_true rfl) (Nat.le_of_ble_eq_true rfl) (Nat.zero_le _) (Nat.zero_le _) (fun v9 w9 R_8 => ?_)
  obtain ⟨rfl, rfl⟩ := R_8
  show WW κ 0 0 [(a 0, mO a v), (a 1, aI (kG κ) 800 f1)] 15 [(2, .int (nI 3)), (1, .int (nI (0 + zT τ 0 + zT τ 1 + zT τ 2))), (0, .ref (a 0))] [.int (nI (zT τ 3)), .int (nI (0 + zT τ 0 + zT τ 1 + zT τ 2))]
  refine w_iadd (nx := 16) C (nI (0 + zT τ 0 + zT τ 1 + zT τ 2 + zT τ 3)) dX9_allRows_15 rfl (nI_add _ _) ?_
  refine w_istore_n (nx := 17) (lo2 := [(1, .int (nI (0 + zT τ 0 + zT τ 1 + zT τ 2 + zT τ 3))), (2, .int (nI 3)), (0, .ref (a 0))]) C dX9_allRows_16 rfl rfl (by decide) rfl ?_
  refine w_iinc (nx := 20) (lo2 := [(2, .int (nI 4)), (1, .int (nI (0 + zT τ 0 + zT τ 1 + zT τ 2 + zT τ 3))), (0, .ref (a 0))]) C (nI 4) 1 dX9_allRows_17 rfl rfl (nI_add _ _) (by decide) rfl ?_
  refine w_goto (nx := 4) C dX9_allRows_20 rfl ?_
  refine w_iload_n (nx := 5) C 0 dX9_allRows_4 rfl rfl rfl ?_
  refine w_iconst (nx := 6) C (nI 4) dX9_allRows_5 rfl (by decide) ?_
  refine n_icmp_ge (tg := 23) (nx := 9) C dX9_allRows_6 rfl rfl (by decide) (by decide) (fun _ => ?_) (fun q9 => absurd (by decide) q9)
  refine w_iload_n (nx := 24) C 1 dX9_allRows_23 rfl rfl rfl ?_
  exact w_iret (ty := .int) C E dX9_allRows_24 rfl rfl (Nat.le_refl _) (Nat.le_refl _) ⟨rfl, rfl⟩
set_option maxHeartbeats 4000000 in
set_option maxRecDepth 100000 in
theorem c_X9_sumOfNumbers (l : Launch) (G : GG) (a : Nat → Nat) (v : Nat → Int32) (f1 : Nat → Int32) (τ : TB) (hT : rMT f1 τ) (hw : wfT τ) : MT l G yX9_sumOfNumbers cX9_sumOfNumbers 4 (some .int) 2 0 0 [.ref (a 0)] [(a 0, mO a v), (a 1, aI G 800 f1)] (fun v9 ws9 => v9 = some (.int (nI (sumT τ 4))) ∧ ws9 = [(a 0, mO a v), (a 1, aI G 800 f1)]) := by
  refine MT.of RX9 [(0, .ref (a 0))] (by decide +kernel) rfl rfl (Nat.le_of_ble_eq_true rfl) (fun κ C E hl9 hG9 hnm9 => ?_)
  subst hl9; subst hG9
  refine w_iconst (nx := 1) C (nI 0) dX9_sumOfNumbers_0 rfl (by decide) ?_
  refine w_istore_n (nx := 2) (lo2 := [(1, .int (nI 0)), (0, .ref (a 0))]) C dX9_sumOfNumbers_1 rfl rfl (by decide) rfl ?_
  refine w_iconst (nx := 3) C (nI 0) dX9_sumOfNumbers_2 rfl (by decide) ?_
  refine w_istore_n (nx := 4) (lo2 := [(2, .int (nI 0)), (1, .int (nI 0)), (0, .ref (a 0))]) C dX9_sumOfNumbers_3 rfl rfl (by decide) rfl ?_
  have LP_1 : ∀ (N9_4 : Nat) (t : Nat) (ac : Nat), (t ≤ 4) → (ac = sumT τ t) → (4 - t) < N9_4 → WW κ 0 0 [(a 0, mO a v), (a 1, aI (kG κ) 800 f1)] 4 [(0, .ref (a 0)), (1, .int (nI ac)), (2, .int (nI t))] [] := by
    intro N9_4
    induction N9_4 with
    | zero => intro t ac ht ha hm9_4; exact absurd hm9_4 (Nat.not_lt_zero _)
    | succ N9_4 ih9_4 =>
      intro t ac ht ha hm9_4
      refine w_iload_n (nx := 5) C 2 dX9_sumOfNumbers_4 rfl rfl rfl ?_
      refine w_iconst (nx := 6) C (nI 4) dX9_sumOfNumbers_5 rfl (by decide) ?_
      refine n_icmp_ge (tg := 47) (nx := 9) C dX9_sumOfNumbers_6 rfl rfl (by omega) (by omega) (fun h_2 => ?_) (fun h_2 => ?_)
      · refine w_iload_n (nx := 48) C 1 dX9_sumOfNumbers_47 rfl rfl rfl ?_
        exact w_iret (ty := .int) C E dX9_sumOfNumbers_48 rfl rfl (Nat.le_refl _) (Nat.le_refl _) ⟨(congrArg (fun z => some (Value.int z)) (by have e9 : t = 4 := (by omega); subst e9; rw [ha])), rfl⟩
      · refine w_iconst (nx := 10) C (nI 0) dX9_sumOfNumbers_9 rfl (by decide) ?_
        refine w_istore_n (nx := 11) (lo2 := [(3, .int (nI 0)), (0, .ref (a 0)), (1, .int (nI ac)), (2, .int (nI t))]) C dX9_sumOfNumbers_10 rfl rfl (by decide) rfl ?_
        have LP_3 : ∀ (N9_11 : Nat) (j : Nat) (ad : Nat), (j ≤ zT τ t) → (ad = ac + sN (nT τ t) j) → (zT τ t - j) < N9_11 → WW κ 0 0 [(a 0, mO a v), (a 1, aI (kG κ) 800 f1)] 11 [(0, .ref (a 0)), (1, .int (nI ad)), (2, .int (nI t)), (3, .int (nI j))] [] := by
          intro N9_11
          induction N9_11 with
          | zero => intro j ad hj hc hm9_11; exact absurd hm9_11 (Nat.not_lt_zero _)
          | succ N9_11 ih9_11 =>
            intro j ad hj hc hm9_11
            have hz := (hw t (by omega)).1
            refine w_iload_n (nx := 12) C 3 dX9_sumOfNumbers_11 rfl rfl rfl ?_
            refine w_aload_n (nx := 13) C 0 dX9_sumOfNumbers_12 rfl rfl rfl ?_
            refine w_iload_n (nx := 14) C 2 dX9_sumOfNumbers_13 rfl rfl rfl ?_
            refine w_callV (nx := 17) (wr := []) (rest := [.int (nI j)]) C mi_X9_rows (c_X9_rows _ _ a v f1 τ t (by first | assumption | omega) (by first | assumption | omega) (by first | assumption | omega)) 0 dX9_sumOfNumbers_14 rfl wl_X9_100 rfl rfl rfl (pm_sel [0, 1] 2 (by decide +kernel) rfl rfl) rfl rfl (Nat.le_of_ble_eq_true rfl) (Nat.le_of_ble_eq_true rfl) (Nat.le_of_ble_eq_true rfl) (Nat.zero_le _) (Nat.zero_le _) (fun v9 w9 R_4 => ?_)
            obtain ⟨rfl, rfl⟩ := R_4
            show WW κ 0 0 [(a 0, mO a v), (a 1, aI (kG κ) 800 f1)] 17 [(0, .ref (a 0)), (1, .int (nI ad)), (2, .int (nI t)), (3, .int (nI j))] [.int (nI (zT τ t)), .int (nI j)]
            refine n_icmp_ge (tg := 41) (nx := 20) C dX9_sumOfNumbers_17 rfl rfl (by omega) (by omega) (fun h_5 => ?_) (fun h_5 => ?_)
            · refine w_iinc (nx := 44) (lo2 := [(2, .int (nI (t + 1))), (0, .ref (a 0)), (1, .int (nI ad)), (3, .int (nI j))]) C (nI (t + 1)) 2 dX9_sumOfNumbers_41 rfl rfl (nI_add _ _) (by decide) rfl ?_
              refine w_goto (nx := 4) C dX9_sumOfNumbers_44 rfl ?_
              refine ww_lo [1, 2, 0] (lo' := [(0, .ref (a 0)), (1, .int (nI ad)), (2, .int (nI (t + 1)))]) rfl ?_
              exact ih9_4 (t + 1) ad (by first | assumption | omega) (by have e9 : j = zT τ t := (by omega); subst e9; rw [hc, ha]; rfl) (by omega)
            · refine w_iload_n (nx := 21) C 1 dX9_sumOfNumbers_20 rfl rfl rfl ?_
              refine w_aload_n (nx := 22) C 0 dX9_sumOfNumbers_21 rfl rfl rfl ?_
              refine w_getM (nx := 25) C (.ref (a 1)) 0 1 dX9_sumOfNumbers_22 rfl wl_X9_7 rfl (by decide) rfl (mg_1 _ _) ?_
              refine w_iload_n (nx := 26) C 2 dX9_sumOfNumbers_25 rfl rfl rfl ?_
              refine w_iload_n (nx := 27) C 3 dX9_sumOfNumbers_26 rfl rfl rfl ?_
              refine w_callS (nx := 30) (wr := [(a 0, mO a v), (a 1, aI (kG κ) 800 f1)]) (rest := [.ref (a 1), .int (nI ad)]) C ms_X9_rowAt (c_X9_rowAt _ _ t j) dX9_sumOfNumbers_27 rfl wl_X9_104 rfl (pm_sel [0, 1] 2 (by decide +kernel) rfl rfl) rfl rfl (Nat.le_of_ble_eq_true rfl) (Nat.le_of_ble_eq_true rfl) (Nat.le_of_ble_eq_true rfl) (Nat.zero_le _) (Nat.zero_le _) (fun v9 w9 R_6 => ?_)
              obtain ⟨rfl, rfl⟩ := R_6
              show WW κ 0 0 [(a 0, mO a v), (a 1, aI (kG κ) 800 f1)] 30 [(0, .ref (a 0)), (1, .int (nI ad)), (2, .int (nI t)), (3, .int (nI j))] [.int (nI (2 + 25 * t + 1 + 2 * j)), .ref (a 1), .int (nI ad)]
              refine w_iconst (nx := 31) C (nI 1) dX9_sumOfNumbers_30 rfl (by decide) ?_
              refine w_iadd (nx := 32) C (nI (2 + 25 * t + 1 + 2 * j + 1)) dX9_sumOfNumbers_31 rfl (nI_add _ _) ?_
              refine w_iald (nx := 33) C (nI (nT τ t j)) 1 (2 + 25 * t + 1 + 2 * j + 1) dX9_sumOfNumbers_32 rfl rfl (by decide) rfl (by omega) (rMT_n hT (by omega) (by omega)) ?_
              refine w_iadd (nx := 34) C (nI (ad + nT τ t j)) dX9_sumOfNumbers_33 rfl (nI_add _ _) ?_
              refine w_istore_n (nx := 35) (lo2 := [(1, .int (nI (ad + nT τ t j))), (0, .ref (a 0)), (2, .int (nI t)), (3, .int (nI j))]) C dX9_sumOfNumbers_34 rfl rfl (by decide) rfl ?_
              refine w_iinc (nx := 38) (lo2 := [(3, .int (nI (j + 1))), (1, .int (nI (ad + nT τ t j))), (0, .ref (a 0)), (2, .int (nI t))]) C (nI (j + 1)) 3 dX9_sumOfNumbers_35 rfl rfl (nI_add _ _) (by decide) rfl ?_
              refine w_goto (nx := 11) C dX9_sumOfNumbers_38 rfl ?_
              refine ww_lo [2, 1, 3, 0] (lo' := [(0, .ref (a 0)), (1, .int (nI (ad + nT τ t j))), (2, .int (nI t)), (3, .int (nI (j + 1)))]) rfl ?_
              exact ih9_11 (j + 1) (ad + nT τ t j) (by first | assumption | omega) (by rw [hc]; exact Nat.add_assoc _ _ _) (by omega)
        refine ww_lo [1, 2, 3, 0] (lo' := [(0, .ref (a 0)), (1, .int (nI ac)), (2, .int (nI t)), (3, .int (nI 0))]) rfl ?_
        exact LP_3 _ 0 ac (Nat.zero_le _) (rfl) (Nat.lt_succ_self _)
  refine ww_lo [2, 1, 0] (lo' := [(0, .ref (a 0)), (1, .int (nI 0)), (2, .int (nI 0))]) rfl ?_
  exact LP_1 _ 0 0 (by first | assumption | omega) (rfl) (Nat.lt_succ_self _)
set_option maxHeartbeats 4000000 in
set_option maxRecDepth 100000 in
theorem c_X9_putAside (l : Launch) (G : GG) (a : Nat → Nat) (v : Nat → Int32) (f1 : Nat → Int32) (f2 : Nat → Int32)  : MT l G yX9_putAside cX9_putAside 2 none 1 0 0 [.ref (a 0)] [(a 0, mO a v), (a 1, aI G 800 f1), (a 2, aI G 800 f2)] (fun v9 ws9 => ∃ (g2 : Nat → Int32), v9 = none ∧ ws9 = [(a 0, mO a v), (a 1, aI G 800 f1), (a 2, aI G 800 g2)] ∧ (∀ i, i < 800 → g2 i = f1 i)) := by
  refine MT.of RX9 [(0, .ref (a 0))] (by decide +kernel) rfl rfl (Nat.le_of_ble_eq_true rfl) (fun κ C E hl9 hG9 hnm9 => ?_)
  subst hl9; subst hG9
  refine w_iconst (nx := 1) C (nI 0) dX9_putAside_0 rfl (by decide) ?_
  refine w_istore_n (nx := 2) (lo2 := [(1, .int (nI 0)), (0, .ref (a 0))]) C dX9_putAside_1 rfl rfl (by decide) rfl ?_
  have LP_1 : ∀ (N9_2 : Nat) (g2 : Nat → Int32) (k : Nat), (k ≤ 800) → (∀ i, i < k → g2 i = f1 i) → (800 - k) < N9_2 → WW κ 0 0 [(a 0, mO a v), (a 1, aI (kG κ) 800 f1), (a 2, aI (kG κ) 800 g2)] 2 [(0, .ref (a 0)), (1, .int (nI k))] [] := by
    intro N9_2
    induction N9_2 with
    | zero => intro g2 k hk he hm9_2; exact absurd hm9_2 (Nat.not_lt_zero _)
    | succ N9_2 ih9_2 =>
      intro g2 k hk he hm9_2
      refine w_iload_n (nx := 3) C 1 dX9_putAside_2 rfl rfl rfl ?_
      refine w_sipush (nx := 6) C (nI 800) dX9_putAside_3 rfl (by decide) ?_
      refine n_icmp_ge (tg := 27) (nx := 9) C dX9_putAside_6 rfl rfl (by omega) (by omega) (fun h_2 => ?_) (fun h_2 => ?_)
      · exact w_vret C E dX9_putAside_27 rfl (Nat.le_refl _) (Nat.le_refl _) ⟨_, rfl, rfl, (fun i hi => he i (by omega))⟩
      · refine w_aload_n (nx := 10) C 0 dX9_putAside_9 rfl rfl rfl ?_
        refine w_getM (nx := 13) C (.ref (a 2)) 0 2 dX9_putAside_10 rfl wl_X9_13 rfl (by decide) rfl (mg_2 _ _) ?_
        refine w_iload_n (nx := 14) C 1 dX9_putAside_13 rfl rfl rfl ?_
        refine w_aload_n (nx := 15) C 0 dX9_putAside_14 rfl rfl rfl ?_
        refine w_getM (nx := 18) C (.ref (a 1)) 0 1 dX9_putAside_15 rfl wl_X9_7 rfl (by decide) rfl (mg_1 _ _) ?_
        refine w_iload_n (nx := 19) C 1 dX9_putAside_18 rfl rfl rfl ?_
        refine w_iald (nx := 20) C (f1 k) 1 k dX9_putAside_19 rfl rfl (by decide) rfl (by omega) rfl ?_
        refine w_iast (nx := 21) (ws2 := [(a 0, mO a v), (a 1, aI (kG κ) 800 f1), (a 2, aI (kG κ) 800 (upd g2 k (f1 k)))]) C 2 k dX9_putAside_20 rfl rfl (by decide) rfl (by omega) rfl ?_
        refine w_iinc (nx := 24) (lo2 := [(1, .int (nI (k + 1))), (0, .ref (a 0))]) C (nI (k + 1)) 1 dX9_putAside_21 rfl rfl (nI_add _ _) (by decide) rfl ?_
        refine w_goto (nx := 2) C dX9_putAside_24 rfl ?_
        refine ww_lo [1, 0] (lo' := [(0, .ref (a 0)), (1, .int (nI (k + 1)))]) rfl ?_
        exact ih9_2 (upd g2 k (f1 k)) (k + 1) (by first | assumption | omega) (fun i hi => (Nat.lt_or_ge i k).elim (fun z => (upd_n (by omega)).trans (he i z)) (fun z => by have e9 : i = k := (by omega); subst e9; exact upd_e rfl)) (by omega)
  refine ww_lo [1, 0] (lo' := [(0, .ref (a 0)), (1, .int (nI 0))]) rfl ?_
  exact LP_1 _ f2 0 (Nat.zero_le _) (fun i hi => absurd hi (Nat.not_lt_zero _)) (Nat.lt_succ_self _)
set_option maxHeartbeats 4000000 in
set_option maxRecDepth 100000 in
theorem c_X9_takeBack (l : Launch) (G : GG) (a : Nat → Nat) (v : Nat → Int32) (f1 : Nat → Int32) (f2 : Nat → Int32)  : MT l G yX9_takeBack cX9_takeBack 2 none 1 0 0 [.ref (a 0)] [(a 0, mO a v), (a 1, aI G 800 f1), (a 2, aI G 800 f2)] (fun v9 ws9 => ∃ (g1 : Nat → Int32), v9 = none ∧ ws9 = [(a 0, mO a v), (a 1, aI G 800 g1), (a 2, aI G 800 f2)] ∧ (∀ i, i < 800 → g1 i = f2 i)) := by
  refine MT.of RX9 [(0, .ref (a 0))] (by decide +kernel) rfl rfl (Nat.le_of_ble_eq_true rfl) (fun κ C E hl9 hG9 hnm9 => ?_)
  subst hl9; subst hG9
  refine w_iconst (nx := 1) C (nI 0) dX9_takeBack_0 rfl (by decide) ?_
  refine w_istore_n (nx := 2) (lo2 := [(1, .int (nI 0)), (0, .ref (a 0))]) C dX9_takeBack_1 rfl rfl (by decide) rfl ?_
  have LP_1 : ∀ (N9_2 : Nat) (g1 : Nat → Int32) (k : Nat), (k ≤ 800) → (∀ i, i < k → g1 i = f2 i) → (800 - k) < N9_2 → WW κ 0 0 [(a 0, mO a v), (a 1, aI (kG κ) 800 g1), (a 2, aI (kG κ) 800 f2)] 2 [(0, .ref (a 0)), (1, .int (nI k))] [] := by
    intro N9_2
    induction N9_2 with
    | zero => intro g1 k hk he hm9_2; exact absurd hm9_2 (Nat.not_lt_zero _)
    | succ N9_2 ih9_2 =>
      intro g1 k hk he hm9_2
      refine w_iload_n (nx := 3) C 1 dX9_takeBack_2 rfl rfl rfl ?_
      refine w_sipush (nx := 6) C (nI 800) dX9_takeBack_3 rfl (by decide) ?_
      refine n_icmp_ge (tg := 27) (nx := 9) C dX9_takeBack_6 rfl rfl (by omega) (by omega) (fun h_2 => ?_) (fun h_2 => ?_)
      · exact w_vret C E dX9_takeBack_27 rfl (Nat.le_refl _) (Nat.le_refl _) ⟨_, rfl, rfl, (fun i hi => he i (by omega))⟩
      · refine w_aload_n (nx := 10) C 0 dX9_takeBack_9 rfl rfl rfl ?_
        refine w_getM (nx := 13) C (.ref (a 1)) 0 1 dX9_takeBack_10 rfl wl_X9_7 rfl (by decide) rfl (mg_1 _ _) ?_
        refine w_iload_n (nx := 14) C 1 dX9_takeBack_13 rfl rfl rfl ?_
        refine w_aload_n (nx := 15) C 0 dX9_takeBack_14 rfl rfl rfl ?_
        refine w_getM (nx := 18) C (.ref (a 2)) 0 2 dX9_takeBack_15 rfl wl_X9_13 rfl (by decide) rfl (mg_2 _ _) ?_
        refine w_iload_n (nx := 19) C 1 dX9_takeBack_18 rfl rfl rfl ?_
        refine w_iald (nx := 20) C (f2 k) 2 k dX9_takeBack_19 rfl rfl (by decide) rfl (by omega) rfl ?_
        refine w_iast (nx := 21) (ws2 := [(a 0, mO a v), (a 1, aI (kG κ) 800 (upd g1 k (f2 k))), (a 2, aI (kG κ) 800 f2)]) C 1 k dX9_takeBack_20 rfl rfl (by decide) rfl (by omega) rfl ?_
        refine w_iinc (nx := 24) (lo2 := [(1, .int (nI (k + 1))), (0, .ref (a 0))]) C (nI (k + 1)) 1 dX9_takeBack_21 rfl rfl (nI_add _ _) (by decide) rfl ?_
        refine w_goto (nx := 2) C dX9_takeBack_24 rfl ?_
        refine ww_lo [1, 0] (lo' := [(0, .ref (a 0)), (1, .int (nI (k + 1)))]) rfl ?_
        exact ih9_2 (upd g1 k (f2 k)) (k + 1) (by first | assumption | omega) (fun i hi => (Nat.lt_or_ge i k).elim (fun z => (upd_n (by omega)).trans (he i z)) (fun z => by have e9 : i = k := (by omega); subst e9; exact upd_e rfl)) (by omega)
  refine ww_lo [1, 0] (lo' := [(0, .ref (a 0)), (1, .int (nI 0))]) rfl ?_
  exact LP_1 _ f1 0 (Nat.zero_le _) (fun i hi => absurd hi (Nat.not_lt_zero _)) (Nat.lt_succ_self _)
set_option maxHeartbeats 4000000 in
set_option maxRecDepth 100000 in
theorem c_X9_refuses (l : Launch) (G : GG) (kd : Int32) (t : Int32) (ky : Int32) (nm : Int32)  : MT l G yX9_refuses cX9_refuses 4 (some .int) 3 0 0 [.int kd, .int t, .int ky, .int nm] [] (fun v9 ws9 => (∃ (v : Int32), v9 = some (.int v) ∧ ws9 = [] ∧ ¬ v = 0 ∧ oE kd t ky nm = v) ∨ (∃ (jk : Nat) (jt : Nat) (jy : Nat) (jn : Nat), v9 = some (.int (nI 0)) ∧ ws9 = [] ∧ kd = nI jk ∧ t = nI jt ∧ ky = nI jy ∧ nm = nI jn ∧ oE kd t ky nm = 0 ∧ jk < 3 ∧ jt < 4 ∧ jy < 100 ∧ jn < 1000)) := by
  refine MT.of RX9 [(0, .int kd), (1, .int t), (2, .int ky), (3, .int nm)] (by decide +kernel) rfl rfl (Nat.le_of_ble_eq_true rfl) (fun κ C E hl9 hG9 hnm9 => ?_)
  subst hl9; subst hG9
  refine w_iload_n (nx := 1) C 1 dX9_refuses_0 rfl rfl rfl ?_
  refine w_callS (nx := 4) (wr := []) (rest := []) C ms_X9_isTable (c_X9_isTable _ _ t) dX9_refuses_1 rfl wl_X9_201 rfl (List.Perm.refl _) rfl rfl (Nat.le_of_ble_eq_true rfl) (Nat.le_of_ble_eq_true rfl) (Nat.le_of_ble_eq_true rfl) (Nat.zero_le _) (Nat.zero_le _) (fun v9 w9 R_1 => ?_)
  obtain ⟨rfl, rfl⟩ := R_1
  show WW κ 0 0 [] 4 [(0, .int kd), (1, .int t), (2, .int ky), (3, .int nm)] [.int (bC (wi t 4))]
  refine b_if_ne (tg := 9) (nx := 7) C dX9_refuses_4 rfl rfl (fun h_2 => ?_) (fun h_2 => ?_)
  · obtain ⟨jt, hjt, rfl⟩ := h_2
    refine w_iload_n (nx := 10) C 0 dX9_refuses_9 rfl rfl rfl ?_
    refine w_iconst (nx := 11) C (nI 0) dX9_refuses_10 rfl (by decide) ?_
    refine w_iconst (nx := 12) C (nI 2) dX9_refuses_11 rfl (by decide) ?_
    refine w_callS (nx := 15) (wr := []) (rest := []) C ms_X9_in (c_X9_in_w _ _ kd 3 (nI 2) (by decide) (by decide)) dX9_refuses_12 rfl wl_X9_93 rfl (List.Perm.refl _) rfl rfl (Nat.le_of_ble_eq_true rfl) (Nat.le_of_ble_eq_true rfl) (Nat.le_of_ble_eq_true rfl) (Nat.zero_le _) (Nat.zero_le _) (fun v9 w9 R_3 => ?_)
    obtain ⟨rfl, rfl⟩ := R_3
    show WW κ 0 0 [] 15 [(0, .int kd), (1, .int (nI jt)), (2, .int ky), (3, .int nm)] [.int (bC (wi kd 3))]
    refine b_if_eq (tg := 43) (nx := 18) C dX9_refuses_15 rfl rfl (fun h_4 => ?_) (fun h_4 => ?_)
    · have hno := h_4
      refine w_bipush (nx := 45) C (-2) dX9_refuses_43 rfl (by decide) ?_
      exact w_iret (ty := .int) C E dX9_refuses_45 rfl rfl (Nat.le_refl _) (Nat.le_refl _) (Or.inl ⟨_, rfl, rfl, (by decide), (oE_2 ⟨jt, hjt, rfl⟩ (fun q => hno q.1))⟩)
    · obtain ⟨jk, hjk, rfl⟩ := h_4
      refine w_iload_n (nx := 19) C 2 dX9_refuses_18 rfl rfl rfl ?_
      refine w_iconst (nx := 20) C (nI 0) dX9_refuses_19 rfl (by decide) ?_
      refine w_bipush (nx := 22) C (nI 99) dX9_refuses_20 rfl (by decide) ?_
      refine w_callS (nx := 25) (wr := []) (rest := []) C ms_X9_in (c_X9_in_w _ _ ky 100 (nI 99) (by decide) (by decide)) dX9_refuses_22 rfl wl_X9_93 rfl (List.Perm.refl _) rfl rfl (Nat.le_of_ble_eq_true rfl) (Nat.le_of_ble_eq_true rfl) (Nat.le_of_ble_eq_true rfl) (Nat.zero_le _) (Nat.zero_le _) (fun v9 w9 R_5 => ?_)
      obtain ⟨rfl, rfl⟩ := R_5
      show WW κ 0 0 [] 25 [(0, .int (nI jk)), (1, .int (nI jt)), (2, .int ky), (3, .int nm)] [.int (bC (wi ky 100))]
      refine b_if_eq (tg := 43) (nx := 28) C dX9_refuses_25 rfl rfl (fun h_6 => ?_) (fun h_6 => ?_)
      · have hno := h_6
        refine w_bipush (nx := 45) C (-2) dX9_refuses_43 rfl (by decide) ?_
        exact w_iret (ty := .int) C E dX9_refuses_45 rfl rfl (Nat.le_refl _) (Nat.le_refl _) (Or.inl ⟨_, rfl, rfl, (by decide), (oE_2 ⟨jt, hjt, rfl⟩ (fun q => hno q.2.1))⟩)
      · obtain ⟨jy, hjy, rfl⟩ := h_6
        refine w_iload_n (nx := 29) C 3 dX9_refuses_28 rfl rfl rfl ?_
        refine w_iconst (nx := 30) C (nI 0) dX9_refuses_29 rfl (by decide) ?_
        refine w_sipush (nx := 33) C (nI 999) dX9_refuses_30 rfl (by decide) ?_
        refine w_callS (nx := 36) (wr := []) (rest := []) C ms_X9_in (c_X9_in_w _ _ nm 1000 (nI 999) (by decide) (by decide)) dX9_refuses_33 rfl wl_X9_93 rfl (List.Perm.refl _) rfl rfl (Nat.le_of_ble_eq_true rfl) (Nat.le_of_ble_eq_true rfl) (Nat.le_of_ble_eq_true rfl) (Nat.zero_le _) (Nat.zero_le _) (fun v9 w9 R_7 => ?_)
        obtain ⟨rfl, rfl⟩ := R_7
        show WW κ 0 0 [] 36 [(0, .int (nI jk)), (1, .int (nI jt)), (2, .int (nI jy)), (3, .int nm)] [.int (bC (wi nm 1000))]
        refine b_if_eq (tg := 43) (nx := 39) C dX9_refuses_36 rfl rfl (fun h_8 => ?_) (fun h_8 => ?_)
        · have hno := h_8
          refine w_bipush (nx := 45) C (-2) dX9_refuses_43 rfl (by decide) ?_
          exact w_iret (ty := .int) C E dX9_refuses_45 rfl rfl (Nat.le_refl _) (Nat.le_refl _) (Or.inl ⟨_, rfl, rfl, (by decide), (oE_2 ⟨jt, hjt, rfl⟩ (fun q => hno q.2.2))⟩)
        · obtain ⟨jn, hjn, rfl⟩ := h_8
          refine w_iconst (nx := 40) C (nI 0) dX9_refuses_39 rfl (by decide) ?_
          refine w_goto (nx := 45) C dX9_refuses_40 rfl ?_
          exact w_iret (ty := .int) C E dX9_refuses_45 rfl rfl (Nat.le_refl _) (Nat.le_refl _) (Or.inr (⟨jk, jt, jy, jn, rfl, rfl, (by first | assumption | rfl | omega), (by first | assumption | rfl | omega), (by first | assumption | rfl | omega), (by first | assumption | rfl | omega), (oE_3 ⟨jt, hjt, rfl⟩ ⟨⟨jk, hjk, rfl⟩, ⟨jy, hjy, rfl⟩, jn, hjn, rfl⟩), (by first | assumption | rfl | omega), (by first | assumption | rfl | omega), (by first | assumption | rfl | omega), (by first | assumption | rfl | omega)⟩))
  · have hno := h_2
    refine w_iconst (nx := 8) C (-1) dX9_refuses_7 rfl (by decide) ?_
    exact w_iret (ty := .int) C E dX9_refuses_8 rfl rfl (Nat.le_refl _) (Nat.le_refl _) (Or.inl ⟨_, rfl, rfl, (by decide), (oE_1 hno)⟩)
